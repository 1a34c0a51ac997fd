/** Each promise by hand: ordinary inputs, the edges that the document names, wrong inputs. */
public final class PromisesTest {
    private static final Checks C = new Checks("PromisesTest");

    public static void main(String[] args) {
        newObject();
        setDimension();
        kill();
        revive();
        killAll();
        isAliveAndDistance();
        shortest();
        levels();
        vectors();
        decisions();
        routes();
        reach();
        broadcasts();
        subcubes();
        disjointPaths();
        send();
        step();
        detours();
        messageNumbers();
        count();
        undo();
        undoOfTheLastMessage();
        digest();
        C.end();
    }

    private interface NodeCall {
        long answer(int node);
    }

    /** Numbers of no node of a cube with the dimension d. */
    private static void badNodes(String what, FaultyCube x, int d, NodeCall call) {
        int[] bad = {-1, 1 << d, 64, Integer.MIN_VALUE, Integer.MAX_VALUE};
        for (int node : bad) {
            C.badArgument(what + " with " + node, x, () -> call.answer(node));
        }
    }

    // Promise 1
    private static void newObject() {
        FaultyCube x = new FaultyCube();
        for (int v = 0; v < 16; v++) {
            int node = v;
            C.due("1 isAlive(" + v + ")", 1, () -> x.isAlive(node) ? 1 : 0);
        }
        badNodes("1 isAlive", x, 4, v -> x.isAlive(v) ? 1 : 0);
        for (int state = 0; state < 3; state++) {
            int s = state;
            C.due("1 count(" + s + ")", 0, () -> x.count(s));
        }
        C.badArgument("1 state(0)", x, () -> x.state(0));
        C.badState("1 undo()", x, () -> x.undo());
        long h = Cubes.fold(0, 4, 0, 0, 16, 960);
        for (int v = 0; v < 16; v++) {
            h = h * 31 + 4;
            for (int k = 1; k <= 4; k++) {
                h = h * 31 + 1;
            }
        }
        C.due("1 digest()", h * 31, x::digest);
    }

    // Promise 2
    private static void setDimension() {
        FaultyCube x = new FaultyCube();
        for (int bad : new int[] {0, 7, -1, Integer.MIN_VALUE, Integer.MAX_VALUE}) {
            C.badArgument("2 setDimension(" + bad + ")", x, () -> x.setDimension(bad));
        }
        int before = 4;
        for (int d : new int[] {1, 6, 6, 2, 3, 5, 4}) {
            C.due("2 setDimension(" + d + ")", before, () -> x.setDimension(d));
            C.due("2 safe nodes of " + d, 1 << d, () -> x.safeNodes());
            C.due("2 subcubes of " + d, 1, () -> x.freeSubcubes(d));
            C.badArgument("2 isAlive after " + d, x, () -> x.isAlive(1 << d) ? 1 : 0);
            before = d;
        }
        x.kill(5);
        x.send(0, 3);
        x.step(2);
        C.due("2 the same dimension", 4, () -> x.setDimension(4));
        C.due("2 revived", 1, () -> x.isAlive(5) ? 1 : 0);
        C.badArgument("2 no messages", x, () -> x.state(0));
        C.due("2 undo()", 3, () -> x.undo());
        C.due("2 dead again", 0, () -> x.isAlive(5) ? 1 : 0);
        C.due("2 message again", 1, () -> x.state(0));

        FaultyCube stepped = new FaultyCube();
        stepped.step(3);
        stepped.setDimension(4);
        FaultyCube still = new FaultyCube();
        still.killAll(0);
        still.setDimension(4);
        C.due("2 the steps are 0", still.digest(), stepped::digest);
    }

    // Promise 3
    private static void kill() {
        FaultyCube x = new FaultyCube();
        x.send(0, 3);
        x.send(3, 0);
        x.send(1, 2);
        x.send(3, 3);
        badNodes("3 kill", x, 4, x::kill);
        C.due("3 kill(3), position, goal and delivered", 2, () -> x.kill(3));
        C.due("3 state(0)", FaultyCube.LOST, () -> x.state(0));
        C.due("3 state(1)", FaultyCube.LOST, () -> x.state(1));
        C.due("3 state(2)", FaultyCube.MOVING, () -> x.state(2));
        C.due("3 state(3)", FaultyCube.DELIVERED, () -> x.state(3));
        C.due("3 isAlive(3)", 0, () -> x.isAlive(3) ? 1 : 0);
        C.due("3 level(3)", 0, () -> x.level(3));
        C.badState("3 kill(3) again", x, () -> x.kill(3));
        C.due("3 kill(0), lost before", 0, () -> x.kill(0));
        C.due("3 kill(2)", 1, () -> x.kill(2));
        C.due("3 undo()", 3, () -> x.undo());
        C.due("3 state(2) again", FaultyCube.MOVING, () -> x.state(2));
        C.due("3 isAlive(2)", 1, () -> x.isAlive(2) ? 1 : 0);
        FaultyCube big = Cubes.of(6);
        C.due("3 kill(63)", 0, () -> big.kill(63));
        C.due("3 isAlive(63)", 0, () -> big.isAlive(63) ? 1 : 0);
    }

    // Promise 4
    private static void revive() {
        FaultyCube x = Cubes.of(6, 63, 0, 40);
        badNodes("4 revive", x, 6, x::revive);
        C.badState("4 revive(1)", x, () -> x.revive(1));
        C.due("4 revive(40)", 2, () -> x.revive(40));
        C.badState("4 revive(40) again", x, () -> x.revive(40));
        C.due("4 isAlive(40)", 1, () -> x.isAlive(40) ? 1 : 0);
        C.due("4 revive(63)", 1, () -> x.revive(63));
        C.due("4 revive(0)", 0, () -> x.revive(0));
        C.due("4 safeNodes()", 64, () -> x.safeNodes());
        C.due("4 undo()", 3, () -> x.undo());
        C.due("4 isAlive(0)", 0, () -> x.isAlive(0) ? 1 : 0);
        C.due("4 isAlive(63), its own saved state", 1, () -> x.isAlive(63) ? 1 : 0);

        FaultyCube y = new FaultyCube();
        y.send(0, 3);
        y.kill(3);
        y.revive(3);
        C.due("4 a lost message stays lost", FaultyCube.LOST, () -> y.state(0));
        C.due("4 and does not move", 0, () -> y.step(20));
    }

    // Promise 5
    private static void killAll() {
        FaultyCube x = new FaultyCube();
        C.due("5 killAll(0)", 0, () -> x.killAll(0));
        C.due("5 undo() of nothing", 0, () -> x.undo());
        x.kill(3);
        x.send(0, 1);
        x.send(2, 2);
        x.send(4, 5);
        C.due("5 killAll(0xFFFF000F)", 3, () -> x.killAll(0xFFFF000F));
        C.due("5 count(LOST)", 1, () -> x.count(FaultyCube.LOST));
        C.due("5 freeSubcubes(0)", 12, () -> x.freeSubcubes(0));
        C.due("5 undo()", 3, () -> x.undo());
        C.due("5 freeSubcubes(0) again", 15, () -> x.freeSubcubes(0));
        C.due("5 count(LOST) again", 0, () -> x.count(FaultyCube.LOST));

        FaultyCube big = Cubes.of(6, 31);
        C.due("5 killAll(-1)", 31, () -> big.killAll(-1));
        for (int v = 0; v < 64; v++) {
            int node = v;
            C.due("5 isAlive(" + v + ")", v < 32 ? 0 : 1, () -> big.isAlive(node) ? 1 : 0);
        }
        FaultyCube top = Cubes.of(5);
        C.due("5 killAll(1 << 31)", 1, () -> top.killAll(1 << 31));
        C.due("5 isAlive(31)", 0, () -> top.isAlive(31) ? 1 : 0);
    }

    // Promises 6 and 7
    private static void isAliveAndDistance() {
        FaultyCube x = Cubes.of(5, 17);
        badNodes("6 isAlive", x, 5, v -> x.isAlive(v) ? 1 : 0);
        C.due("6 isAlive(17)", 0, () -> x.isAlive(17) ? 1 : 0);
        C.due("6 isAlive(16)", 1, () -> x.isAlive(16) ? 1 : 0);
        badNodes("7 distance from", x, 5, v -> x.distance(v, 0));
        badNodes("7 distance to", x, 5, v -> x.distance(0, v));
        C.due("7 distance(17, 14), one dead", 5, () -> x.distance(17, 14));
        C.due("7 distance(17, 17)", 0, () -> x.distance(17, 17));
        C.due("7 distance(3, 6)", 2, () -> x.distance(3, 6));
        FaultyCube big = Cubes.of(6);
        C.due("7 distance(0, 63)", 6, () -> big.distance(0, 63));
    }

    // Promise 8
    private static void shortest() {
        FaultyCube x = Cubes.of(3, 1, 2);
        badNodes("8 shortest from", x, 3, v -> x.shortest(v, 0));
        badNodes("8 shortest to", x, 3, v -> x.shortest(0, v));
        badNodes("8 shortest from, to dead", x, 3, v -> x.shortest(v, 1));
        C.badState("8 shortest(0, 1)", x, () -> x.shortest(0, 1));
        C.badState("8 shortest(1, 0)", x, () -> x.shortest(1, 0));
        C.badState("8 shortest(1, 1)", x, () -> x.shortest(1, 1));
        C.due("8 shortest(0, 3)", 4, () -> x.shortest(0, 3));
        C.due("8 shortest(3, 3)", 0, () -> x.shortest(3, 3));
        C.due("8 shortest(4, 7)", 2, () -> x.shortest(4, 7));
        x.kill(4);
        C.due("8 shortest(0, 3), cut off", FaultyCube.NONE, () -> x.shortest(0, 3));
        C.due("8 shortest(0, 0), cut off", 0, () -> x.shortest(0, 0));
        // 0, 1, 3, 7, 6, 14, 12, 13 are alive, each beside the next and no other.
        FaultyCube snake = Cubes.of(4, 2, 4, 5, 8, 9, 10, 11, 15);
        C.due("8 shortest(0, 13), a snake", 7, () -> snake.shortest(0, 13));
        FaultyCube two = Cubes.of(2, 1);
        C.due("8 shortest(0, 3) around", 2, () -> two.shortest(0, 3));
    }

    // Promises 9, 10, 11
    private static void levels() {
        FaultyCube whole = Cubes.of(6);
        C.due("9 level(0)", 6, () -> whole.level(0));
        C.due("10 rounds()", 0, () -> whole.rounds());
        C.due("11 safeNodes()", 64, () -> whole.safeNodes());

        FaultyCube x = Cubes.of(3, 1, 2, 4);
        badNodes("9 level", x, 3, x::level);
        int[] want = {1, 0, 0, 1, 0, 1, 1, 2};
        for (int v = 0; v < 8; v++) {
            int node = v;
            C.due("9 level(" + v + ")", want[v], () -> x.level(node));
        }
        C.due("10 rounds(), two", 2, () -> x.rounds());
        C.due("11 safeNodes(), none", 0, () -> x.safeNodes());

        FaultyCube one = Cubes.of(1, 1);
        C.due("9 level(0), dimension 1", 1, () -> one.level(0));
        C.due("9 level(1), dimension 1", 0, () -> one.level(1));
        C.due("10 rounds(), dimension 1", 0, () -> one.rounds());
        C.due("11 safeNodes(), dimension 1", 1, () -> one.safeNodes());
        one.kill(0);
        C.due("11 safeNodes(), all dead", 0, () -> one.safeNodes());
        C.due("10 rounds(), all dead", 0, () -> one.rounds());
    }

    // Promise 12
    private static void vectors() {
        FaultyCube x = Cubes.of(3, 1, 2, 4);
        badNodes("12 vectorBit", x, 3, v -> x.vectorBit(v, 1));
        for (int k : new int[] {0, -1, 4, Integer.MIN_VALUE, Integer.MAX_VALUE}) {
            C.badArgument("12 vectorBit(0, " + k + ")", x, () -> x.vectorBit(0, k));
        }
        // u(2) needs more than 1 of the neighbours, u(3) more than 0.
        int[][] want = {{1, 0, 0}, {0, 0, 0}, {0, 0, 0}, {1, 0, 1}, {0, 0, 0}, {1, 0, 1},
            {1, 0, 1}, {1, 1, 0}};
        for (int v = 0; v < 8; v++) {
            for (int k = 1; k <= 3; k++) {
                int node = v;
                int bit = k;
                C.due("12 vectorBit(" + v + ", " + k + ")", want[v][k - 1],
                        () -> x.vectorBit(node, bit));
            }
        }
        FaultyCube one = Cubes.of(1, 0);
        C.due("12 dimension 1, alive", 1, () -> one.vectorBit(1, 1));
        C.due("12 dimension 1, dead", 0, () -> one.vectorBit(0, 1));
        C.badArgument("12 dimension 1, k 2", one, () -> one.vectorBit(1, 2));
        FaultyCube whole = Cubes.of(6);
        C.due("12 vectorBit(63, 6)", 1, () -> whole.vectorBit(63, 6));
        // u(2) needs more than 4 of the 6 neighbours, u(3) more than 3.
        whole.kill(1);
        C.due("12 vectorBit(0, 2), one dead", 1, () -> whole.vectorBit(0, 2));
        whole.kill(2);
        C.due("12 vectorBit(0, 2), two dead", 0, () -> whole.vectorBit(0, 2));
        C.due("12 vectorBit(0, 3), two dead", 1, () -> whole.vectorBit(0, 3));
    }

    // Promise 13
    private static void decisions() {
        FaultyCube x = Cubes.of(3, 1, 2);
        badNodes("13 decide from", x, 3, v -> x.decide(v, 0));
        badNodes("13 decide to", x, 3, v -> x.decide(0, v));
        badNodes("13 decide from dead to", x, 3, v -> x.decide(1, v));
        C.badState("13 decide(1, 0)", x, () -> x.decide(1, 0));
        C.badState("13 decide(0, 1)", x, () -> x.decide(0, 1));
        C.due("13 decide(0, 0)", FaultyCube.OPTIMAL, () -> x.decide(0, 0));
        C.due("13 decide(0, 4), by its level", FaultyCube.OPTIMAL, () -> x.decide(0, 4));
        C.due("13 decide(0, 7), by a neighbour", FaultyCube.OPTIMAL, () -> x.decide(0, 7));
        C.due("13 decide(0, 3)", FaultyCube.DETOUR, () -> x.decide(0, 3));
        x.kill(4);
        C.due("13 decide(0, 3), alone", FaultyCube.REFUSED, () -> x.decide(0, 3));
        C.due("13 decide(0, 0), alone", FaultyCube.OPTIMAL, () -> x.decide(0, 0));
        FaultyCube two = Cubes.of(2, 1, 2);
        C.due("13 decide(0, 3), nothing spare", FaultyCube.REFUSED, () -> two.decide(0, 3));
        // The spare neighbour 4 of 0 has the level 2, and 3 would be wanted.
        FaultyCube weak = Cubes.of(3, 1, 2, 6, 7);
        C.due("13 level(4), weak", 2, () -> weak.level(4));
        C.due("13 decide(0, 3), weak", FaultyCube.REFUSED, () -> weak.decide(0, 3));
        // 3 has the level 1; its preferred neighbour 7 has the level 2, just enough for 3.
        FaultyCube enough = Cubes.of(4, 1, 2, 4, 8);
        C.due("13 level(3), enough", 1, () -> enough.level(3));
        C.due("13 level(7), enough", 2, () -> enough.level(7));
        C.due("13 decide(3, 13), enough", FaultyCube.OPTIMAL, () -> enough.decide(3, 13));
        // The source decides, so there and back may differ.
        FaultyCube strong = Cubes.of(4, 2, 3, 5, 8);
        C.due("13 decide(0, 11), there", FaultyCube.DETOUR, () -> strong.decide(0, 11));
        C.due("13 decide(11, 0), back", FaultyCube.OPTIMAL, () -> strong.decide(11, 0));
        FaultyCube near = Cubes.of(4, 3, 5, 6, 8);
        C.due("13 decide(0, 7), there", FaultyCube.REFUSED, () -> near.decide(0, 7));
        C.due("13 decide(7, 0), back", FaultyCube.DETOUR, () -> near.decide(7, 0));
    }

    // Promises 14 and 15
    private static void routes() {
        FaultyCube x = Cubes.of(3, 1, 2);
        badNodes("14 routeLength from", x, 3, v -> x.routeLength(v, 0));
        badNodes("14 routeLength to", x, 3, v -> x.routeLength(1, v));
        C.badState("14 routeLength(1, 0)", x, () -> x.routeLength(1, 0));
        C.badState("14 routeLength(0, 2)", x, () -> x.routeLength(0, 2));
        badNodes("15 routeNode from", x, 3, v -> x.routeNode(v, 0, 0));
        badNodes("15 routeNode to", x, 3, v -> x.routeNode(1, v, 0));
        C.badArgument("15 routeNode(0, 3, -1)", x, () -> x.routeNode(0, 3, -1));
        C.badArgument("15 routeNode(1, 3, -1)", x, () -> x.routeNode(1, 3, -1));
        C.badArgument("15 routeNode, least index", x,
                () -> x.routeNode(0, 3, Integer.MIN_VALUE));
        C.badState("15 routeNode(1, 0, 0)", x, () -> x.routeNode(1, 0, 0));
        C.badState("15 routeNode(0, 2, 9)", x, () -> x.routeNode(0, 2, 9));
        C.due("14 routeLength(0, 0)", 0, () -> x.routeLength(0, 0));
        C.due("14 routeLength(0, 7)", 3, () -> x.routeLength(0, 7));
        C.due("14 routeLength(0, 3), a detour", 4, () -> x.routeLength(0, 3));
        dueRoute(x, 0, 0, 0);
        dueRoute(x, 0, 7, 0, 4, 5, 7);
        dueRoute(x, 0, 3, 0, 4, 5, 7, 3);
        C.due("15 a great index", FaultyCube.NONE,
                () -> x.routeNode(0, 3, Integer.MAX_VALUE));
        x.kill(4);
        C.due("14 routeLength, refused", FaultyCube.NONE, () -> x.routeLength(0, 3));
        dueRoute(x, 0, 3);
        // 1 has the level 1, so the lowest of the greatest levels is that of 2.
        dueRoute(Cubes.of(4, 5, 9), 0, 15, 0, 2, 3, 7, 15);
        // 4 has the level 1, so the detour goes by 8, the greater spare neighbour.
        dueRoute(Cubes.of(4, 1, 2, 5, 6), 0, 3, 0, 8, 9, 11, 3);
    }

    private static void dueRoute(FaultyCube x, int from, int to, int... nodes) {
        for (int i = 0; i <= nodes.length; i++) {
            int index = i;
            C.due("15 routeNode(" + from + ", " + to + ", " + i + ")",
                    i < nodes.length ? nodes[i] : FaultyCube.NONE,
                    () -> x.routeNode(from, to, index));
        }
    }

    // Promise 16
    private static void reach() {
        FaultyCube x = Cubes.of(3, 1, 2);
        badNodes("16 reach", x, 3, v -> x.reach(v, 0));
        for (int bad : new int[] {-1, 3, Integer.MIN_VALUE, Integer.MAX_VALUE}) {
            C.badArgument("16 reach(0, " + bad + ")", x, () -> x.reach(0, bad));
            C.badArgument("16 reach(1, " + bad + ")", x, () -> x.reach(1, bad));
        }
        C.badState("16 reach(1, 0)", x, () -> x.reach(1, 0));
        C.due("16 reach(0, OPTIMAL)", 4, () -> x.reach(0, FaultyCube.OPTIMAL));
        C.due("16 reach(0, DETOUR)", 1, () -> x.reach(0, FaultyCube.DETOUR));
        C.due("16 reach(0, REFUSED)", 0, () -> x.reach(0, FaultyCube.REFUSED));
        x.kill(4);
        C.due("16 reach(0, OPTIMAL), alone", 0, () -> x.reach(0, FaultyCube.OPTIMAL));
        C.due("16 reach(0, REFUSED), alone", 4, () -> x.reach(0, FaultyCube.REFUSED));
        FaultyCube big = Cubes.of(6);
        C.due("16 reach(63, OPTIMAL)", 63, () -> big.reach(63, FaultyCube.OPTIMAL));
    }

    // Promises 17 and 18
    private static void broadcasts() {
        FaultyCube x = Cubes.of(3, 1, 2);
        badNodes("17 broadcastTime from", x, 3, v -> x.broadcastTime(v, 0));
        badNodes("17 broadcastTime to", x, 3, v -> x.broadcastTime(1, v));
        badNodes("18 broadcastSize", x, 3, x::broadcastSize);
        C.badState("17 broadcastTime(1, 0)", x, () -> x.broadcastTime(1, 0));
        C.badState("17 broadcastTime(1, 1)", x, () -> x.broadcastTime(1, 1));
        C.badState("18 broadcastSize(2)", x, () -> x.broadcastSize(2));
        // From 0 with 2, 0, 1; from 4 with 0, 1; from 5 with 1: 3 is left out.
        int[] times = {0, -1, -1, -1, 1, 2, 2, 3};
        for (int v = 0; v < 8; v++) {
            int node = v;
            C.due("17 broadcastTime(0, " + v + ")", times[v], () -> x.broadcastTime(0, node));
        }
        C.due("18 broadcastSize(0)", 5, () -> x.broadcastSize(0));
        x.kill(4);
        C.due("18 broadcastSize(0), alone", 1, () -> x.broadcastSize(0));
        C.due("17 broadcastTime(0, 0), alone", 0, () -> x.broadcastTime(0, 0));
        FaultyCube big = Cubes.of(6);
        C.due("18 broadcastSize(5), whole", 64, () -> big.broadcastSize(5));
        C.due("17 broadcastTime(0, 63), whole", 6, () -> big.broadcastTime(0, 63));
    }

    // Promises 19 and 20
    private static void subcubes() {
        FaultyCube x = new FaultyCube();
        for (int bad : new int[] {-1, 5, Integer.MIN_VALUE, Integer.MAX_VALUE}) {
            C.badArgument("19 freeSubcubes(" + bad + ")", x, () -> x.freeSubcubes(bad));
        }
        int[] whole = {16, 32, 24, 8, 1};
        dueSubcubes(x, whole);
        C.due("20 largestSubcube(), whole", 960, () -> x.largestSubcube());
        x.kill(0);
        dueSubcubes(x, 15, 28, 18, 4, 0);
        C.due("20 largestSubcube(), without 0", 64 * 7 + 8, () -> x.largestSubcube());
        x.kill(8);
        dueSubcubes(x, 14, 25, 15, 3, 0);
        C.due("20 the least mask with a base", 64 * 11 + 4, () -> x.largestSubcube());
        FaultyCube points = Cubes.of(2, 0, 3);
        dueSubcubes(points, 2, 0, 0);
        C.due("20 the least base", 1, () -> points.largestSubcube());
        points.killAll(-1);
        dueSubcubes(points, 0, 0, 0);
        C.due("20 all dead", FaultyCube.NONE, () -> points.largestSubcube());
        FaultyCube big = Cubes.of(6);
        dueSubcubes(big, 64, 192, 240, 160, 60, 12, 1);
        C.due("20 largestSubcube(), 6", 64 * 63, () -> big.largestSubcube());
    }

    private static void dueSubcubes(FaultyCube x, int... counts) {
        for (int k = 0; k < counts.length; k++) {
            int dimension = k;
            C.due("19 freeSubcubes(" + k + ")", counts[k], () -> x.freeSubcubes(dimension));
        }
    }

    // Promise 21
    private static void disjointPaths() {
        for (int d = 1; d <= 6; d++) {
            FaultyCube x = Cubes.of(d);
            int last = (1 << d) - 1;
            C.due("21 opposite, " + d, d, () -> x.disjointPaths(0, last));
            C.due("21 beside, " + d, d, () -> x.disjointPaths(last, last - 1));
        }
        FaultyCube x = Cubes.of(3, 1, 2);
        badNodes("21 disjointPaths from", x, 3, v -> x.disjointPaths(v, 1));
        badNodes("21 disjointPaths to", x, 3, v -> x.disjointPaths(0, v));
        C.badArgument("21 the same", x, () -> x.disjointPaths(0, 0));
        C.badArgument("21 the same, dead", x, () -> x.disjointPaths(1, 1));
        C.badState("21 from dead", x, () -> x.disjointPaths(1, 0));
        C.badState("21 to dead", x, () -> x.disjointPaths(0, 1));
        C.due("21 disjointPaths(0, 7)", 1, () -> x.disjointPaths(0, 7));
        C.due("21 disjointPaths(4, 7)", 2, () -> x.disjointPaths(4, 7));
        C.due("21 disjointPaths(0, 4)", 1, () -> x.disjointPaths(0, 4));
        x.kill(4);
        C.due("21 none", 0, () -> x.disjointPaths(0, 7));
    }

    // Promise 22
    private static void send() {
        FaultyCube x = new FaultyCube();
        x.kill(9);
        badNodes("22 send from", x, 4, v -> x.send(v, 9));
        badNodes("22 send to", x, 4, v -> x.send(9, v));
        C.badState("22 from dead", x, () -> x.send(9, 0));
        C.badState("22 to dead", x, () -> x.send(0, 9));
        C.badState("22 both dead", x, () -> x.send(9, 9));
        for (int i = 0; i < 24; i++) {
            int to = i % 8;
            C.due("22 send number " + i, i, () -> x.send(0, to));
        }
        C.due("22 at its goal", FaultyCube.DELIVERED, () -> x.state(0));
        C.due("22 not at its goal", FaultyCube.MOVING, () -> x.state(23));
        C.due("22 position(23)", 0, () -> x.position(23));
        C.due("22 moves(23)", 0, () -> x.moves(23));
        C.badState("22 the 25th", x, () -> x.send(0, 1));
        badNodes("22 the 25th, from", x, 4, v -> x.send(v, 0));
        C.due("22 undo()", 3, () -> x.undo());
        C.badArgument("22 state(23), undone", x, () -> x.state(23));
        C.due("22 send again", 23, () -> x.send(3, 3));
        C.due("22 state(23) again", FaultyCube.DELIVERED, () -> x.state(23));
        x.setDimension(4);
        C.due("22 send from number 0 again", 0, () -> x.send(5, 6));
        x.step(2);
        x.undo();
        x.undo();
        x.undo();
        C.due("22 all 24 messages again", FaultyCube.DELIVERED, () -> x.state(23));

        // A new message has made no moves and no detours, whatever stood there before it.
        FaultyCube used = Cubes.of(3, 1, 2);
        used.send(0, 3);
        used.step(2);
        used.setDimension(3);
        used.send(0, 3);
        C.due("22 moves(0), a new message", 0, () -> used.moves(0));
        FaultyCube fresh = Cubes.of(3);
        fresh.killAll(0);
        fresh.killAll(0);
        fresh.killAll(0);
        fresh.send(0, 3);
        C.due("22 a new message, the digest", fresh.digest(), used::digest);
    }

    // Promise 23
    private static void step() {
        FaultyCube x = new FaultyCube();
        for (int bad : new int[] {0, -1, 21, Integer.MIN_VALUE, Integer.MAX_VALUE}) {
            C.badArgument("23 step(" + bad + ")", x, () -> x.step(bad));
        }
        C.due("23 step(20), no messages", 0, () -> x.step(20));
        C.due("23 undo()", 0, () -> x.undo());
        x.send(0, 3);
        x.send(0, 3);
        x.send(0, 2);
        x.send(1, 0);
        C.due("23 step(1), one waits", 3, () -> x.step(1));
        C.due("23 position(0)", 1, () -> x.position(0));
        C.due("23 position(1), the same way", 0, () -> x.position(1));
        C.due("23 position(2), another way", 2, () -> x.position(2));
        C.due("23 position(3), the way back", 0, () -> x.position(3));
        C.due("23 state(3)", FaultyCube.DELIVERED, () -> x.state(3));
        C.due("23 step(1)", 2, () -> x.step(1));
        C.due("23 position(1), a step later", 1, () -> x.position(1));
        C.due("23 step(2)", 1, () -> x.step(2));
        C.due("23 count(DELIVERED)", 4, () -> x.count(FaultyCube.DELIVERED));
        C.due("23 undo(), one saved state", 3, () -> x.undo());
        C.due("23 moves(1), undone once", 1, () -> x.moves(1));
        C.due("23 undo()", 2, () -> x.undo());
        C.due("23 position(1), undone", 0, () -> x.position(1));

        FaultyCube queue = Cubes.of(6);
        for (int i = 0; i < 3; i++) {
            queue.send(31, 63);
        }
        C.due("23 step(1), the way of the highest dimension", 1, () -> queue.step(1));
        C.due("23 step(20), one after the other", 2, () -> queue.step(20));
        C.due("23 no moves are left", 0, () -> queue.step(1));

        FaultyCube once = new FaultyCube();
        once.killAll(0);
        once.step(5);
        FaultyCube more = new FaultyCube();
        more.step(2);
        more.step(3);
        C.due("23 the steps add up", more.digest(), once::digest);
    }

    // Promise 23: what a message chooses
    private static void detours() {
        FaultyCube around = Cubes.of(3, 1, 2);
        around.send(0, 3);
        for (int node : new int[] {4, 5, 7, 3}) {
            C.due("23 detour: step(1)", 1, () -> around.step(1));
            C.due("23 detour: position(0)", node, () -> around.position(0));
        }
        C.due("23 detour: moves(0)", 4, () -> around.moves(0));
        C.due("23 detour: state(0)", FaultyCube.DELIVERED, () -> around.state(0));

        // The goal cannot be had: to and fro until both detours are made.
        FaultyCube walled = Cubes.of(3, 3, 5, 6);
        walled.send(0, 7);
        int[] nodes = {1, 0, 1, 0, 1, 1, 1};
        for (int i = 0; i < nodes.length; i++) {
            int moved = i < 5 ? 1 : 0;
            int at = nodes[i];
            C.due("23 walled: step(1)", moved, () -> walled.step(1));
            C.due("23 walled: position(0)", at, () -> walled.position(0));
        }
        C.due("23 walled: moves(0)", 5, () -> walled.moves(0));
        C.due("23 walled: state(0)", FaultyCube.MOVING, () -> walled.state(0));
        walled.revive(3);
        C.due("23 walled: step(20), freed", 2, () -> walled.step(20));
        C.due("23 walled: state(0), freed", FaultyCube.DELIVERED, () -> walled.state(0));

        // No neighbour is alive at all, and no dimension is spare.
        FaultyCube alone = Cubes.of(2, 1, 2);
        alone.send(0, 3);
        C.due("23 alone: step(20)", 0, () -> alone.step(20));
        C.due("23 alone: position(0)", 0, () -> alone.position(0));
        C.due("23 alone: state(0)", FaultyCube.MOVING, () -> alone.state(0));

        FaultyCube better = Cubes.of(4, 5, 9);
        better.send(0, 3);
        better.step(1);
        C.due("23 the greatest level, not the lowest", 2, () -> better.position(0));
        FaultyCube spare = Cubes.of(4, 1, 2, 5, 6);
        spare.send(0, 3);
        spare.step(1);
        C.due("23 the greatest spare level", 8, () -> spare.position(0));
    }

    private interface MessageCall {
        long answer(int message);
    }

    // Promises 24, 25, 26
    private static void messageNumbers() {
        FaultyCube x = new FaultyCube();
        x.send(0, 15);
        x.send(5, 5);
        String[] names = {"24 state", "25 position", "26 moves"};
        MessageCall[] calls = {x::state, x::position, x::moves};
        for (int i = 0; i < 3; i++) {
            for (int bad : new int[] {-1, 2, 23, 24, Integer.MIN_VALUE, Integer.MAX_VALUE}) {
                MessageCall call = calls[i];
                C.badArgument(names[i] + "(" + bad + ")", x, () -> call.answer(bad));
            }
        }
        C.due("24 state(0)", FaultyCube.MOVING, () -> x.state(0));
        C.due("24 state(1)", FaultyCube.DELIVERED, () -> x.state(1));
        x.step(2);
        C.due("25 position(0)", 3, () -> x.position(0));
        C.due("25 position(1)", 5, () -> x.position(1));
        C.due("26 moves(0)", 2, () -> x.moves(0));
        C.due("26 moves(1)", 0, () -> x.moves(1));
        x.kill(3);
        C.due("24 state(0), lost", FaultyCube.LOST, () -> x.state(0));
        C.due("25 position(0), lost", 3, () -> x.position(0));
        C.due("26 moves(0), lost", 2, () -> x.moves(0));
        x.kill(5);
        C.due("24 state(1), delivered where it is dead", FaultyCube.DELIVERED,
                () -> x.state(1));
    }

    // Promise 27
    private static void count() {
        FaultyCube x = new FaultyCube();
        for (int bad : new int[] {-1, 3, Integer.MIN_VALUE, Integer.MAX_VALUE}) {
            C.badArgument("27 count(" + bad + ")", x, () -> x.count(bad));
        }
        x.send(0, 15);
        x.send(1, 14);
        x.send(2, 13);
        x.send(3, 3);
        x.send(4, 4);
        x.kill(13);
        C.due("27 count(MOVING)", 2, () -> x.count(FaultyCube.MOVING));
        C.due("27 count(DELIVERED)", 2, () -> x.count(FaultyCube.DELIVERED));
        C.due("27 count(LOST)", 1, () -> x.count(FaultyCube.LOST));
    }

    // Promise 28
    private static void undo() {
        FaultyCube x = new FaultyCube();
        for (int v = 0; v < 6; v++) {
            x.kill(v);
        }
        for (int left = 3; left >= 0; left--) {
            int want = left;
            C.due("28 undo(), " + left + " left", want, () -> x.undo());
            C.due("28 alive again", 1, () -> x.isAlive(want + 2) ? 1 : 0);
            C.due("28 still dead", 0, () -> x.isAlive(want + 1) ? 1 : 0);
        }
        C.badState("28 undo(), empty", x, () -> x.undo());
        C.due("28 freeSubcubes(0)", 14, () -> x.freeSubcubes(0));

        FaultyCube y = new FaultyCube();
        long start = y.digest();
        y.killAll(72);
        y.send(0, 15);
        y.step(2);
        y.setDimension(6);
        y.undo();
        C.due("28 position(0) after undo()", 5, () -> y.position(0));
        C.due("28 level(2) after undo()", 1, () -> y.level(2));
        y.undo();
        y.undo();
        y.undo();
        C.due("28 as at first", start, y::digest);
        C.badState("28 undo(), empty again", y, () -> y.undo());
        y.step(1);
        C.due("28 undo() after a new call", 0, () -> y.undo());
        C.due("28 as at first again", start, y::digest);
    }

    // Promise 28: all of the last message too
    private static void undoOfTheLastMessage() {
        FaultyCube x = Cubes.of(3, 1, 2);
        for (int i = 0; i < 23; i++) {
            x.send(7, 7);
        }
        x.send(0, 3);
        long before = x.digest();
        x.step(1);
        x.undo();
        C.due("28 position(23) after undo()", 0, () -> x.position(23));
        C.due("28 moves(23) after undo()", 0, () -> x.moves(23));
        x.kill(3);
        x.undo();
        C.due("28 state(23) after undo()", FaultyCube.MOVING, () -> x.state(23));
        x.killAll(0);
        C.due("28 the digest after undo()", before, x::digest);
    }

    // Promise 29
    private static void digest() {
        FaultyCube x = Cubes.of(1, 1);
        x.send(0, 0);
        x.step(7);
        long h = Cubes.fold(4, 1, 7, 0, 1, 0, 1, 1, 0, 0, 1, 1, 0, 0, 0, 0);
        C.due("29 dimension 1", h, x::digest);

        FaultyCube y = Cubes.of(2, 1);
        y.send(0, 3);
        y.step(1);
        y.kill(0);
        y.revive(0);
        // 0 and 3 have one dead neighbour each, so the level 2; the largest is 2 with 3.
        h = Cubes.fold(4, 2, 1, 0, 3, 66, 2, 1, 1, 0, 0, 0, 2, 1, 1, 2, 1, 1, 1, 0, 2, 3, 1, 0);
        C.due("29 dimension 2", h, y::digest);

        FaultyCube z = Cubes.of(3, 1, 2);
        z.send(0, 3);
        z.step(2);
        h = Cubes.fold(4, 3, 2, 1, 4, 196,
                1, 1, 0, 1, 0, 0, 0, 0, 0, 0, 0, 0, 1, 1, 0, 1,
                3, 1, 1, 1, 3, 1, 1, 1, 3, 1, 1, 1, 3, 1, 1, 1,
                1, 0, 5, 3, 2, 1);
        C.due("29 dimension 3, a detour", h, z::digest);
        C.due("29 twice the same", h, z::digest);
    }
}
