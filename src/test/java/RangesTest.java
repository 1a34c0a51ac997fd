/** Each range that the document names, in each dimension: just inside and just outside. */
public final class RangesTest {
    private static final Checks C = new Checks("RangesTest");

    public static void main(String[] args) {
        dimensions();
        for (int d = 1; d <= 6; d++) {
            oneNode(d);
            twoNodes(d);
            deadNodes(d);
            bits(d);
            indices(d);
            decisions(d);
            subcubes(d);
        }
        for (int sent : new int[] {0, 1, 2, 23, 24}) {
            messages(sent);
        }
        steps();
        states();
        C.end();
    }

    // "d: 1 to 6", "4 at first"
    private static void dimensions() {
        FaultyCube x = new FaultyCube();
        int before = 4;
        for (int d : new int[] {6, 1, 5, 2, 4, 3, 6, 1}) {
            for (int bad : Cubes.outside(1, 6)) {
                C.badArgument("2 setDimension(" + bad + ")", x, () -> x.setDimension(bad));
            }
            C.due("2 setDimension(" + d + ")", before, () -> x.setDimension(d));
            before = d;
        }
    }

    private interface OneNode {
        long answer(FaultyCube x, int node);
    }

    /** In a cube without dead nodes; a new one for each call. */
    private static void checkOneNode(String name, int d, long want, OneNode call) {
        int last = (1 << d) - 1;
        for (int node : new int[] {0, last}) {
            FaultyCube x = Cubes.of(d);
            C.due(name + " with " + node + " of " + d, want, () -> call.answer(x, node));
        }
        FaultyCube x = Cubes.of(d);
        for (int bad : Cubes.outside(0, last)) {
            C.badArgument(name + " with " + bad + " of " + d, x, () -> call.answer(x, bad));
        }
    }

    // "node: 0 to 2^d - 1", "from: 0 to 2^d - 1"
    private static void oneNode(int d) {
        int all = 1 << d;
        checkOneNode("3 kill", d, 0, (x, v) -> x.kill(v));
        checkOneNode("6 isAlive", d, 1, (x, v) -> x.isAlive(v) ? 1 : 0);
        checkOneNode("9 level", d, d, (x, v) -> x.level(v));
        checkOneNode("12 vectorBit, 1", d, 1, (x, v) -> x.vectorBit(v, 1));
        checkOneNode("12 vectorBit, d", d, 1, (x, v) -> x.vectorBit(v, d));
        checkOneNode("16 reach, OPTIMAL", d, all - 1, (x, v) -> x.reach(v, FaultyCube.OPTIMAL));
        checkOneNode("16 reach, DETOUR", d, 0, (x, v) -> x.reach(v, FaultyCube.DETOUR));
        checkOneNode("16 reach, REFUSED", d, 0, (x, v) -> x.reach(v, FaultyCube.REFUSED));
        checkOneNode("18 broadcastSize", d, all, (x, v) -> x.broadcastSize(v));
    }

    private interface TwoNodes {
        long answer(FaultyCube x, int from, int to);
    }

    /** Both ways between the first and the last node, and each of the two with itself. */
    private static void checkTwoNodes(String name, int d, long apart, long same,
            TwoNodes call) {
        int last = (1 << d) - 1;
        for (int from : new int[] {0, last}) {
            for (int to : new int[] {0, last}) {
                FaultyCube x = Cubes.of(d);
                C.due(name + "(" + from + ", " + to + ") of " + d, from == to ? same : apart,
                        () -> call.answer(x, from, to));
            }
        }
        checkTwoNodesOutside(name, d, call);
    }

    private static void checkTwoNodesOutside(String name, int d, TwoNodes call) {
        FaultyCube x = Cubes.of(d);
        int last = (1 << d) - 1;
        for (int bad : Cubes.outside(0, last)) {
            String what = name + " of " + d + " and " + bad;
            C.badArgument(what + " as from", x, () -> call.answer(x, bad, last));
            C.badArgument(what + " as to", x, () -> call.answer(x, 0, bad));
            C.badArgument(what + " as both", x, () -> call.answer(x, bad, bad));
        }
    }

    // "from: 0 to 2^d - 1", "to: 0 to 2^d - 1"
    private static void twoNodes(int d) {
        checkTwoNodes("7 distance", d, d, 0, (x, s, t) -> x.distance(s, t));
        checkTwoNodes("8 shortest", d, d, 0, (x, s, t) -> x.shortest(s, t));
        checkTwoNodes("13 decide", d, 0, 0, (x, s, t) -> x.decide(s, t));
        checkTwoNodes("14 routeLength", d, d, 0, (x, s, t) -> x.routeLength(s, t));
        checkTwoNodes("15 routeNode, 0", d, 0, 0, (x, s, t) -> x.routeNode(s, t, 0) - s);
        checkTwoNodes("17 broadcastTime", d, d, 0, (x, s, t) -> x.broadcastTime(s, t));
        checkTwoNodes("22 send", d, 0, 0, (x, s, t) -> x.send(s, t));
        checkTwoNodesOutside("21 disjointPaths", d, (x, s, t) -> x.disjointPaths(s, t));
        int last = (1 << d) - 1;
        FaultyCube x = Cubes.of(d);
        C.due("21 disjointPaths from 0 of " + d, d, () -> x.disjointPaths(0, last));
        C.due("21 disjointPaths to 0 of " + d, d, () -> x.disjointPaths(last, 0));
        C.badArgument("21 disjointPaths of 0 and 0", x, () -> x.disjointPaths(0, 0));
        C.badArgument("21 disjointPaths of the last", x, () -> x.disjointPaths(last, last));
    }

    // What takes a dead node too: revive, isAlive, distance, level, vectorBit, broadcastTime
    private static void deadNodes(int d) {
        int last = (1 << d) - 1;
        for (int node : new int[] {0, last}) {
            FaultyCube x = Cubes.of(d, node);
            int other = last - node;
            C.due("6 isAlive, dead", 0, () -> x.isAlive(node) ? 1 : 0);
            C.due("7 distance from dead", d, () -> x.distance(node, other));
            C.due("7 distance to dead", d, () -> x.distance(other, node));
            C.due("7 distance, dead to itself", 0, () -> x.distance(node, node));
            C.due("9 level, dead", 0, () -> x.level(node));
            C.due("12 vectorBit, dead, 1", 0, () -> x.vectorBit(node, 1));
            C.due("12 vectorBit, dead, d", 0, () -> x.vectorBit(node, d));
            C.due("17 broadcastTime to dead", -1, () -> x.broadcastTime(other, node));
            for (int bad : Cubes.outside(0, last)) {
                C.badArgument("4 revive(" + bad + ") of " + d, x, () -> x.revive(bad));
            }
            C.due("4 revive(" + node + ") of " + d, 0, () -> x.revive(node));
        }
    }

    // "k: 1 to d"
    private static void bits(int d) {
        int last = (1 << d) - 1;
        FaultyCube x = Cubes.of(d, last);
        for (int k = 1; k <= d; k++) {
            int bit = k;
            C.due("12 vectorBit(0, " + k + ") of " + d, 1, () -> x.vectorBit(0, bit));
            C.due("12 vectorBit(last, " + k + ") of " + d, 0, () -> x.vectorBit(last, bit));
        }
        for (int bad : Cubes.outside(1, d)) {
            C.badArgument("12 vectorBit(0, " + bad + ") of " + d, x,
                    () -> x.vectorBit(0, bad));
            C.badArgument("12 vectorBit(dead, " + bad + ") of " + d, x,
                    () -> x.vectorBit(last, bad));
        }
    }

    // "index: 0 or more"; "NONE if .. index is greater than the length of the route"
    private static void indices(int d) {
        int last = (1 << d) - 1;
        FaultyCube x = Cubes.of(d);
        for (int i = 0; i <= d; i++) {
            int index = i;
            int up = (1 << i) - 1;
            C.due("15 routeNode(0, last, " + i + ") of " + d, up,
                    () -> x.routeNode(0, last, index));
            C.due("15 routeNode(last, 0, " + i + ") of " + d, last - up,
                    () -> x.routeNode(last, 0, index));
        }
        for (int i : new int[] {d + 1, d + 2, 31, 32, 33, 64, Integer.MAX_VALUE}) {
            C.due("15 routeNode(0, last, " + i + ") of " + d, -1,
                    () -> x.routeNode(0, last, i));
        }
        C.due("15 routeNode(last, last, 0)", last, () -> x.routeNode(last, last, 0));
        C.due("15 routeNode(last, last, 1)", -1, () -> x.routeNode(last, last, 1));
        for (int bad : new int[] {-1, -2, -64, Integer.MIN_VALUE, Integer.MIN_VALUE + 1}) {
            C.badArgument("15 routeNode(0, last, " + bad + ") of " + d, x,
                    () -> x.routeNode(0, last, bad));
            C.badArgument("15 routeNode(0, 0, " + bad + ") of " + d, x,
                    () -> x.routeNode(0, 0, bad));
        }
    }

    // "decision: OPTIMAL, DETOUR or REFUSED"
    private static void decisions(int d) {
        int last = (1 << d) - 1;
        FaultyCube x = Cubes.of(d, last);
        C.due("16 reach(0, 0) of " + d, last - 1, () -> x.reach(0, 0));
        C.due("16 reach(0, 1) of " + d, 0, () -> x.reach(0, 1));
        C.due("16 reach(0, 2) of " + d, 0, () -> x.reach(0, 2));
        for (int bad : Cubes.outside(0, 2)) {
            C.badArgument("16 reach(0, " + bad + ") of " + d, x, () -> x.reach(0, bad));
        }
    }

    // "k: 0 to d"
    private static void subcubes(int d) {
        int all = 1 << d;
        FaultyCube x = Cubes.of(d);
        C.due("19 freeSubcubes(0) of " + d, all, () -> x.freeSubcubes(0));
        C.due("19 freeSubcubes(1) of " + d, d * all / 2, () -> x.freeSubcubes(1));
        C.due("19 freeSubcubes(d - 1) of " + d, 2 * d, () -> x.freeSubcubes(d - 1));
        C.due("19 freeSubcubes(d) of " + d, 1, () -> x.freeSubcubes(d));
        for (int bad : Cubes.outside(0, d)) {
            C.badArgument("19 freeSubcubes(" + bad + ") of " + d, x,
                    () -> x.freeSubcubes(bad));
        }
    }

    // "message: number of a message"
    private static void messages(int sent) {
        FaultyCube x = Cubes.of(6);
        for (int i = 0; i < sent; i++) {
            x.send(63 - i, 63 - i);
        }
        if (sent > 0) {
            C.due("24 state of the first of " + sent, 1, () -> x.state(0));
            C.due("25 position of the first of " + sent, 63, () -> x.position(0));
            C.due("26 moves of the first of " + sent, 0, () -> x.moves(0));
            C.due("24 state of the last of " + sent, 1, () -> x.state(sent - 1));
            C.due("25 position of the last of " + sent, 64 - sent, () -> x.position(sent - 1));
            C.due("26 moves of the last of " + sent, 0, () -> x.moves(sent - 1));
        }
        for (int bad : Cubes.outside(0, sent - 1)) {
            String what = "(" + bad + ") of " + sent;
            C.badArgument("24 state" + what, x, () -> x.state(bad));
            C.badArgument("25 position" + what, x, () -> x.position(bad));
            C.badArgument("26 moves" + what, x, () -> x.moves(bad));
        }
    }

    // "n: 1 to 20"
    private static void steps() {
        for (int n = 1; n <= 20; n++) {
            int number = n;
            FaultyCube x = Cubes.of(1);
            for (int i = 0; i < 24; i++) {
                x.send(0, 1);
            }
            for (int bad : Cubes.outside(1, 20)) {
                C.badArgument("23 step(" + bad + ")", x, () -> x.step(bad));
            }
            C.due("23 step(" + n + "), one after the other", n, () -> x.step(number));
            C.due("23 delivered after step(" + n + ")", n, () -> x.count(FaultyCube.DELIVERED));
        }
    }

    // "state: MOVING, DELIVERED or LOST"
    private static void states() {
        FaultyCube x = Cubes.of(6);
        for (int state = 0; state <= 2; state++) {
            int s = state;
            C.due("27 count(" + s + "), no messages", 0, () -> x.count(s));
        }
        for (int i = 0; i < 24; i++) {
            x.send(0, i < 5 ? 1 : i < 12 ? 0 : 2);
        }
        x.kill(1);
        C.due("27 count(0)", 12, () -> x.count(0));
        C.due("27 count(1)", 7, () -> x.count(1));
        C.due("27 count(2)", 5, () -> x.count(2));
        for (int bad : Cubes.outside(0, 2)) {
            C.badArgument("27 count(" + bad + ")", x, () -> x.count(bad));
        }
    }
}
