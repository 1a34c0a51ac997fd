import java.math.BigInteger;

/**
 * The sentences of the document about messages, undo and the digest that name a boundary case:
 * each sentence stands above its test.
 */
public final class MessageEdgesTest {
    private static final Checks C = new Checks("MessageEdgesTest");

    private interface Action {
        void on(FaultyCube x);
    }

    public static void main(String[] args) {
        fullOfMessages();
        fullInEveryState();
        sentToItself();
        oneWayAtATime();
        severalStepsAtOnce();
        detoursMade();
        noNeighbour();
        detourWayTaken();
        lostAndDelivered();
        severalStates();
        everySavingCall();
        askingSavesNothing();
        fourSavedStates();
        ringOfSavedStates();
        whatUndoRestores();
        digestWraps();
        digestOfManySteps();
        lastCall();
        C.end();
    }

    // "There are at most 24 messages, numbered from 0 in the order in which they were sent."
    private static void fullOfMessages() {
        FaultyCube x = Cubes.of(5);
        for (int i = 0; i < 24; i++) {
            int number = i;
            C.badArgument("24 state(" + i + "), not yet sent", x, () -> x.state(number));
            C.due("22 send, the number " + i, i, () -> x.send(number, 31 - number));
            C.due("25 position(" + i + ")", i, () -> x.position(number));
        }
        C.badState("22 the 25th", x, () -> x.send(0, 1));
        C.badState("22 the 25th, to itself", x, () -> x.send(0, 0));
        C.badArgument("22 the 25th, from no node", x, () -> x.send(32, 0));
        C.badArgument("22 the 25th, to no node", x, () -> x.send(0, -1));
        C.badArgument("24 state(24)", x, () -> x.state(24));
        C.due("22 the first is still the first", 0, () -> x.position(0));
        C.due("28 undo()", 3, () -> x.undo());
        C.badArgument("25 position(23), undone", x, () -> x.position(23));
        C.due("22 room for one again", 23, () -> x.send(9, 9));
        C.badState("22 and no other", x, () -> x.send(9, 9));
        x.setDimension(5);
        C.due("22 room for all again", 0, () -> x.send(31, 31));
        C.badArgument("24 state(1), one message", x, () -> x.state(1));
    }

    // The 24 messages count in whatever state they are.
    private static void fullInEveryState() {
        FaultyCube delivered = Cubes.of(2);
        FaultyCube lost = Cubes.of(2);
        for (int i = 0; i < 24; i++) {
            delivered.send(3, 3);
            lost.send(0, 3);
        }
        lost.kill(3);
        C.due("27 all delivered", 24, () -> delivered.count(FaultyCube.DELIVERED));
        C.due("27 all lost", 24, () -> lost.count(FaultyCube.LOST));
        C.badState("22 the 25th, all delivered", delivered, () -> delivered.send(0, 1));
        C.badState("22 the 25th, all lost", lost, () -> lost.send(0, 1));
    }

    // "A message that is sent to the node at which it is sent is DELIVERED at once."
    private static void sentToItself() {
        FaultyCube x = Cubes.only(6, 63);
        C.due("22 send(63, 63)", 0, () -> x.send(63, 63));
        C.due("24 delivered at once", FaultyCube.DELIVERED, () -> x.state(0));
        C.due("26 without a move", 0, () -> x.moves(0));
        C.due("23 it does not move", 0, () -> x.step(20));
        C.due("26 still without a move", 0, () -> x.moves(0));
        C.due("3 it is not lost", 0, () -> x.kill(63));
        C.due("24 delivered at a dead node", FaultyCube.DELIVERED, () -> x.state(0));
        C.due("25 position", 63, () -> x.position(0));
    }

    // "if an earlier message has moved from v to w in this step already, the message stays"
    private static void oneWayAtATime() {
        FaultyCube x = Cubes.of(1);
        for (int i = 0; i < 24; i++) {
            x.send(i % 2, 1 - i % 2);
        }
        C.due("23 one each way", 2, () -> x.step(1));
        C.due("24 the first there", FaultyCube.DELIVERED, () -> x.state(0));
        C.due("24 the first back", FaultyCube.DELIVERED, () -> x.state(1));
        C.due("24 the second there waits", FaultyCube.MOVING, () -> x.state(2));
        C.due("24 the second back waits", FaultyCube.MOVING, () -> x.state(3));
        C.due("26 waiting is no move", 0, () -> x.moves(2));
        C.due("23 all but two of the rest", 20, () -> x.step(10));
        C.due("24 the last but two", FaultyCube.MOVING, () -> x.state(22));
        C.due("23 the last two", 2, () -> x.step(20));
        C.due("23 nothing is left", 0, () -> x.step(20));
        // The same way in the next step, and another node's way of the same dimension.
        FaultyCube y = Cubes.of(2);
        y.send(0, 1);
        y.send(2, 3);
        y.send(0, 2);
        y.send(1, 3);
        C.due("23 four ways", 4, () -> y.step(1));
        // An earlier message that stays takes no way: 1 waits for 0, 2 goes another way.
        FaultyCube z = Cubes.of(3);
        z.send(0, 1);
        z.send(0, 3);
        z.send(0, 2);
        C.due("23 one waits", 2, () -> z.step(1));
        C.due("25 position(1)", 0, () -> z.position(1));
        C.due("25 position(2)", 2, () -> z.position(2));
    }

    // "n: 1 to 20", "Undoable (one saved state)": n steps at once are n steps one by one
    private static void severalStepsAtOnce() {
        for (int n = 1; n <= 20; n++) {
            FaultyCube once = Cubes.of(5, 1, 2, 4, 30);
            FaultyCube singly = Cubes.of(5, 1, 2, 4, 30);
            FaultyCube unstepped = Cubes.of(5, 1, 2, 4, 30);
            for (FaultyCube x : new FaultyCube[] {once, singly, unstepped}) {
                for (int i = 0; i < 24; i++) {
                    x.send(i % 3 == 0 ? 0 : 8 + i % 4, i % 5 == 0 ? 31 : 7);
                }
            }
            int number = n;
            int total = 0;
            for (int i = 0; i < n; i++) {
                total += singly.step(1);
            }
            C.due("23 step(" + n + ")", total, () -> once.step(number));
            C.due("29 the digest after step(" + n + ")", singly.digest(), once::digest);
            once.undo();
            unstepped.killAll(0);
            unstepped.undo();
            C.due("28 undo() of step(" + n + ")", unstepped.digest(), once::digest);
        }
    }

    // "if no preferred neighbour is alive and the message has made fewer than 2 detours"
    private static void detoursMade() {
        // No way leads to the goal: to and fro until two detours are made, from 4 and from 1.
        FaultyCube x = Cubes.of(3, 3, 5, 6);
        x.send(4, 7);
        int[] places = {0, 1, 0, 1, 1, 1};
        int[] moves = {1, 2, 3, 4, 4, 4};
        for (int i = 0; i < places.length; i++) {
            int at = places[i];
            int made = moves[i];
            int before = i == 0 ? 0 : moves[i - 1];
            C.due("23 step " + i, made - before, () -> x.step(1));
            C.due("25 position after step " + i, at, () -> x.position(0));
            C.due("26 moves after step " + i, made, () -> x.moves(0));
        }
        C.due("24 it stays MOVING", FaultyCube.MOVING, () -> x.state(0));
        // What is preferred it may still choose.
        x.revive(5);
        C.due("23 after both detours, freed", 2, () -> x.step(20));
        C.due("26 all moves", 6, () -> x.moves(0));
        C.due("24 delivered", FaultyCube.DELIVERED, () -> x.state(0));
    }

    // "If there is no such neighbour .. the message stays.": all of them are dead, preferred
    // ones and spare ones, or there is none that is spare
    private static void noNeighbour() {
        for (int d = 2; d <= 6; d++) {
            for (int goal : new int[] {3, (1 << d) - 1}) {
                FaultyCube x = Cubes.only(d, 0, goal);
                x.send(0, goal);
                C.due("23 no neighbour in " + d, 0, () -> x.step(20));
                C.due("25 it stays in " + d, 0, () -> x.position(0));
                C.due("26 without moves in " + d, 0, () -> x.moves(0));
                C.due("24 and is MOVING in " + d, FaultyCube.MOVING, () -> x.state(0));
            }
        }
    }

    // A message that must wait for a detour's way has not made the detour.
    private static void detourWayTaken() {
        FaultyCube x = Cubes.of(3, 1, 2);
        x.send(0, 3);
        x.send(0, 3);
        C.due("23 one waits for the detour", 1, () -> x.step(1));
        C.due("25 position(0)", 4, () -> x.position(0));
        C.due("25 position(1)", 0, () -> x.position(1));
        long h = Cubes.fold(4, 3, 1, 1, 4, 196,
                1, 1, 0, 1, 0, 0, 0, 0, 0, 0, 0, 0, 1, 1, 0, 1,
                3, 1, 1, 1, 3, 1, 1, 1, 3, 1, 1, 1, 3, 1, 1, 1,
                2, 0, 4, 3, 1, 1, 0, 0, 3, 0, 0);
        C.due("29 the detours of both", h, x::digest);
        C.due("23 both go on", 2, () -> x.step(1));
    }

    // "all messages that are MOVING and whose position or goal is this node become LOST", "a
    // LOST message keeps the position that it had"
    private static void lostAndDelivered() {
        FaultyCube x = Cubes.of(3);
        x.send(0, 7);
        x.send(1, 1);
        x.step(1);
        C.due("25 position(0)", 1, () -> x.position(0));
        C.due("3 kill(0), where it was", 0, () -> x.kill(0));
        C.due("24 MOVING", FaultyCube.MOVING, () -> x.state(0));
        C.due("3 kill(1), where it is", 1, () -> x.kill(1));
        C.due("25 the lost one keeps its position", 1, () -> x.position(0));
        C.due("26 and its moves", 1, () -> x.moves(0));
        C.due("23 and stays", 0, () -> x.step(20));
        C.due("3 kill(7), its goal", 0, () -> x.kill(7));
        C.due("24 the delivered one", FaultyCube.DELIVERED, () -> x.state(1));
        x.revive(1);
        x.revive(7);
        C.due("24 lost in spite of revive", FaultyCube.LOST, () -> x.state(0));
        C.due("3 kill(1) again", 0, () -> x.kill(1));
        C.due("27 count(LOST)", 1, () -> x.count(FaultyCube.LOST));
    }

    // "Counts the messages in a state.": from none to all 24
    private static void severalStates() {
        FaultyCube x = Cubes.of(1);
        for (int i = 0; i < 24; i++) {
            x.send(0, 1);
        }
        for (int i = 0; i <= 24; i++) {
            int made = i;
            C.due("27 MOVING after " + i, 24 - i, () -> x.count(FaultyCube.MOVING));
            C.due("27 DELIVERED after " + i, made, () -> x.count(FaultyCube.DELIVERED));
            C.due("27 LOST after " + i, 0, () -> x.count(FaultyCube.LOST));
            x.step(1);
        }
    }

    // "Every method that is marked "undoable" saves the whole state .. also if it changes
    // nothing.", "Undoable (one saved state)."
    private static void everySavingCall() {
        saves("2 setDimension(4)", x -> x.setDimension(4));
        saves("2 setDimension(1)", x -> x.setDimension(1));
        saves("3 kill(0)", x -> x.kill(0));
        saves("4 revive(9)", x -> x.revive(9));
        saves("5 killAll(0)", x -> x.killAll(0));
        saves("5 killAll(-1)", x -> x.killAll(-1));
        saves("5 killAll, a dead node", x -> x.killAll(1 << 9));
        saves("5 killAll, no node", x -> x.killAll(1 << 16));
        saves("22 send(0, 1)", x -> x.send(0, 1));
        saves("22 send(1, 1)", x -> x.send(1, 1));
        saves("23 step(1)", x -> x.step(1));
        saves("23 step(20)", x -> x.step(20));
        FaultyCube idle = new FaultyCube();
        idle.step(20);
        C.due("23 step(20) without messages saves one state", 0, () -> idle.undo());
        C.badState("28 and no other", idle, () -> idle.undo());
    }

    /** Over an empty stack that stands in a cube with a dead node and a message. */
    private static void saves(String what, Action call) {
        FaultyCube x = new FaultyCube();
        x.kill(9);
        x.send(0, 15);
        for (int i = 0; i < 4; i++) {
            x.killAll(0);
        }
        for (int i = 0; i < 4; i++) {
            x.undo();
        }
        long before = x.digest();
        call.on(x);
        C.due(what + " saves one state", 0, () -> x.undo());
        C.due(what + ", the state before", before, x::digest);
        C.badState(what + " saves no other", x, () -> x.undo());
    }

    // What is not marked saves nothing: the stack stays empty, or the same four states.
    private static void askingSavesNothing() {
        FaultyCube empty = new FaultyCube();
        askAll(empty, 1);
        C.badState("28 undo() after all questions", empty, () -> empty.undo());
        FaultyCube full = fullStack();
        FaultyCube asked = fullStack();
        askAll(asked, 11);
        for (int left = 3; left >= 0; left--) {
            int want = left;
            C.due("29 after all questions, " + left, full.digest(), asked::digest);
            full.undo();
            C.due("28 undo() after all questions", want, () -> asked.undo());
        }
        C.due("29 after all questions, the oldest", full.digest(), asked::digest);
    }

    private static FaultyCube fullStack() {
        FaultyCube x = new FaultyCube();
        x.send(0, 15);
        x.kill(3);
        x.kill(5);
        x.kill(6);
        x.step(1);
        return x;
    }

    private static void askAll(FaultyCube x, int node) {
        x.isAlive(node);
        x.distance(0, node);
        x.shortest(0, node);
        x.level(node);
        x.rounds();
        x.safeNodes();
        x.vectorBit(node, 1);
        x.decide(0, node);
        x.routeLength(0, node);
        x.routeNode(0, node, 1);
        x.reach(node, FaultyCube.OPTIMAL);
        x.broadcastTime(0, node);
        x.broadcastSize(node);
        x.freeSubcubes(1);
        x.largestSubcube();
        x.disjointPaths(0, node);
        x.count(FaultyCube.MOVING);
        x.digest();
        if (x.count(FaultyCube.MOVING) > 0) {
            x.state(0);
            x.position(0);
            x.moves(0);
        }
    }

    // "The stack keeps the latest 4 saved states and drops older ones.", "Returns the number
    // of states that are left on the stack.", "IllegalStateException if the stack is empty"
    private static void fourSavedStates() {
        for (int saved = 0; saved <= 9; saved++) {
            FaultyCube x = new FaultyCube();
            long[] digests = new long[10];
            for (int i = 0; i < saved; i++) {
                digests[i] = outline(x);
                x.kill(i);
            }
            int kept = Math.min(saved, 4);
            for (int left = kept - 1; left >= 0; left--) {
                int want = left;
                int number = saved - kept + left;
                C.due("28 undo() of " + saved, want, () -> x.undo());
                C.due("28 the state before call " + number, digests[number], () -> outline(x));
            }
            C.badState("28 undo(), one too many of " + saved, x, () -> x.undo());
            int dead = saved - kept;
            C.due("28 what no undo() reaches", 16 - dead, () -> x.freeSubcubes(0));
        }
    }

    /** A number for the state without the number of saved states. */
    private static long outline(FaultyCube x) {
        long h = Cubes.fold(x.rounds(), x.safeNodes(), x.largestSubcube(), x.freeSubcubes(1));
        for (int v = 0; v < 16; v++) {
            h = Cubes.foldOn(h, x.isAlive(v) ? 1 : 0, x.level(v));
        }
        return h;
    }

    // The same after some were taken from the stack and others were put there instead.
    private static void ringOfSavedStates() {
        for (int first = 0; first <= 6; first++) {
            for (int taken = 0; taken <= Math.min(first, 4); taken++) {
                for (int second = 0; second <= 6; second++) {
                    oneRing(first, taken, second);
                }
            }
        }
    }

    private static void oneRing(int first, int taken, int second) {
        FaultyCube x = Cubes.of(4);
        x.undo();
        for (int i = 0; i < first; i++) {
            x.kill(i);
        }
        for (int i = 0; i < taken; i++) {
            x.undo();
        }
        for (int i = 0; i < second; i++) {
            x.kill(15 - i);
        }
        String what = "28 " + first + " saved, " + taken + " taken, " + second + " saved";
        int kept = Math.min(4, Math.min(first, 4) - taken + second);
        int dead = first - taken + second;
        for (int left = kept - 1; left >= 0; left--) {
            int want = left;
            int alive = 16 - dead + kept - left;
            C.due(what + ", undo()", want, () -> x.undo());
            C.due(what + ", alive", alive, () -> x.freeSubcubes(0));
        }
        C.badState(what + ", one too many", x, () -> x.undo());
    }

    // "saves the whole state (dimension, dead nodes, messages, number of steps)"
    private static void whatUndoRestores() {
        FaultyCube x = Cubes.of(6, 63);
        x.send(0, 7);
        x.step(2);
        long before = x.digest();
        Action[] calls = {
            y -> y.setDimension(1), y -> y.setDimension(6), y -> y.kill(7), y -> y.kill(3),
            y -> y.revive(63), y -> y.killAll(-1), y -> y.send(62, 0), y -> y.step(20)
        };
        for (int i = 0; i < calls.length; i++) {
            FaultyCube same = Cubes.of(6, 63);
            same.send(0, 7);
            same.step(2);
            calls[i].on(same);
            same.undo();
            // Four states were saved before the call, so three of them are left.
            same.killAll(0);
            C.due("28 all is restored, call " + i, before, same::digest);
            C.due("25 its position, call " + i, 3, () -> same.position(0));
            C.due("26 its moves, call " + i, 2, () -> same.moves(0));
            C.due("24 its state, call " + i, FaultyCube.MOVING, () -> same.state(0));
            C.due("6 the dead node, call " + i, 0, () -> same.isAlive(63) ? 1 : 0);
            C.badArgument("24 no other message, call " + i, same, () -> same.state(1));
            same.undo();
            C.due("23 it moves on, call " + i, 1, () -> same.step(20));
        }
        // What other messages of the same numbers have overwritten comes back too.
        FaultyCube y = Cubes.of(3);
        for (int i = 0; i < 24; i++) {
            y.send(0, 7);
        }
        y.setDimension(3);
        y.send(6, 0);
        y.undo();
        y.undo();
        C.due("24 the first MOVING again", FaultyCube.MOVING, () -> y.state(0));
        C.due("25 the first at 0 again", 0, () -> y.position(0));
        C.due("23 it goes to its own goal", 17 * 3 + 2 + 1, () -> y.step(19));
        C.due("25 the first at its goal", 7, () -> y.position(0));
        C.due("27 delivered", 17, () -> y.count(FaultyCube.DELIVERED));
        // The range of the nodes comes back with the dimension.
        FaultyCube small = Cubes.of(6);
        small.setDimension(1);
        C.badArgument("6 isAlive(2) of 1", small, () -> small.isAlive(2) ? 1 : 0);
        small.undo();
        C.due("6 isAlive(63) of 6", 1, () -> small.isAlive(63) ? 1 : 0);
        small.undo();
        C.badArgument("6 isAlive(16) of 4", small, () -> small.isAlive(16) ? 1 : 0);
    }

    // "(long arithmetic, overflow wraps)": against numbers without an end
    private static void digestWraps() {
        for (int d = 1; d <= 6; d++) {
            BigInteger whole = sum(d);
            FaultyCube x = filled(d);
            C.due("29 the digest of " + d + ", wrapped", whole.longValue(), x::digest);
            C.due("29 it did overflow", 1, () -> whole.bitLength() > 64 ? 1 : 0);
        }
        // Both signs come about, and 12805 is the start.
        FaultyCube one = Cubes.of(1, 0, 1);
        long[] values = {3, 1, 0, 0, 0, -1, 0, 0, 0, 0, 0};
        C.due("29 the shortest digest", Cubes.fold(values), one::digest);
        int negative = 0;
        FaultyCube y = new FaultyCube();
        for (int i = 0; i < 20; i++) {
            negative += y.digest() < 0 ? 1 : 0;
            y.step(1);
        }
        int counted = negative;
        C.due("29 some are negative, some are not", 1,
                () -> counted > 0 && counted < 20 ? 1 : 0);
    }

    /** Four saved states, seven steps and 24 messages that have not moved. */
    private static FaultyCube filled(int d) {
        FaultyCube x = Cubes.of(d, (1 << d) - 1);
        x.step(7);
        for (int i = 0; i < 24; i++) {
            x.send(0, goal(d, i));
        }
        return x;
    }

    private static int goal(int d, int message) {
        return message % 2 == 0 ? 0 : (1 << d) - 2;
    }

    /** Asks two cubes, since all of it is too much for the 512 calls of one. */
    private static BigInteger sum(int d) {
        FaultyCube x = filled(d);
        BigInteger h = BigInteger.valueOf(12805);
        for (long v : new long[] {4, d, 7, x.rounds(), x.safeNodes(), x.largestSubcube()}) {
            h = next(h, v);
        }
        for (int v = 0; v < 1 << d; v++) {
            h = next(h, x.level(v));
            for (int k = 1; k <= d; k++) {
                h = next(h, x.vectorBit(v, k));
            }
        }
        FaultyCube y = filled(d);
        h = next(h, 24);
        for (int i = 0; i < 24; i++) {
            h = next(next(next(h, y.state(i)), y.position(i)), goal(d, i));
            h = next(next(h, y.moves(i)), 0);
        }
        return h;
    }

    private static BigInteger next(BigInteger h, long v) {
        return h.multiply(BigInteger.valueOf(31)).add(BigInteger.valueOf(v));
    }

    // "the number of steps": it has no bound but that of the calls
    private static void digestOfManySteps() {
        FaultyCube x = Cubes.of(1);
        for (int i = 0; i < 500; i++) {
            x.step(20);
        }
        C.due("29 10000 steps", Cubes.fold(4, 1, 10000, 0, 2, 64, 1, 1, 1, 1, 0), x::digest);
        x.undo();
        C.due("29 9980 steps", Cubes.fold(3, 1, 9980, 0, 2, 64, 1, 1, 1, 1, 0), x::digest);
        x.setDimension(1);
        C.due("2 0 steps", Cubes.fold(4, 1, 0, 0, 2, 64, 1, 1, 1, 1, 0), x::digest);
    }

    // "An object is used for at most 512 calls after it has been made": the last is the 512th
    private static void lastCall() {
        FaultyCube x = new FaultyCube();
        x.setDimension(6);
        for (int i = 0; i < 500; i++) {
            x.killAll(1 << i % 32);
        }
        for (int v = 32; v < 41; v++) {
            x.kill(v);
        }
        C.due("3 the 511th call", 0, () -> x.kill(41));
        C.due("19 the 512th call", 22, () -> x.freeSubcubes(0));
    }
}
