import java.util.ArrayList;
import java.util.List;

/**
 * Every refused call, in situations from an empty undo stack to a full one: which exception it
 * throws, which comes first where two would be due, and that it changes nothing. What is left
 * behind is told by all that can be asked, and by every saved state, one undo() after the other.
 */
public final class RefusalsTest {
    private static final Checks C = new Checks("RefusalsTest");
    private static final int NO_NODE = -1;
    private static final int CALLS_ON_ONE_CUBE = 200;

    private interface CallOn {
        long answer(FaultyCube x);
    }

    private interface Recipe {
        FaultyCube make();
    }

    private interface TwoNodes {
        long answer(FaultyCube x, int from, int to);
    }

    /** A cube as a recipe makes it, and the calls that it must refuse. */
    private static final class Situation {
        private final String name;
        private final Recipe recipe;
        private final int dimension;
        private final int messages;
        private final List<String> names = new ArrayList<>();
        private final List<String> exceptions = new ArrayList<>();
        private final List<CallOn> calls = new ArrayList<>();

        Situation(String name, Recipe recipe, int dimension, int messages) {
            this.name = name;
            this.recipe = recipe;
            this.dimension = dimension;
            this.messages = messages;
        }

        void argument(String call, CallOn answer) {
            add(call, IllegalArgumentException.class, answer);
        }

        void state(String call, CallOn answer) {
            add(call, IllegalStateException.class, answer);
        }

        private void add(String call, Class<?> exception, CallOn answer) {
            names.add(call);
            exceptions.add("throws " + exception.getName());
            calls.add(answer);
        }
    }

    public static void main(String[] args) {
        situation("a new object", 4, 0, NO_NODE, 5, FaultyCube::new);
        situation("dimension 1", 1, 0, NO_NODE, 0, () -> Cubes.of(1));
        situation("dimension 1, one dead", 1, 0, 1, 0, () -> Cubes.of(1, 1));
        situation("dimension 2, one left", 2, 0, 0, 2, () -> Cubes.only(2, 2));
        situation("dimension 5, all dead", 5, 0, 31, NO_NODE, RefusalsTest::allDeadAtOnce);
        situation("dimension 6, all dead", 6, 0, 63, NO_NODE, () -> Cubes.only(6));
        situation("an emptied stack", 4, 1, NO_NODE, 15, RefusalsTest::emptiedStack);
        situation("one saved state", 4, 0, 9, 1, RefusalsTest::oneSaved);
        situation("three saved states", 3, 0, 2, 3, () -> Cubes.of(3, 1, 2));
        situation("four saved states", 3, 1, 1, 0, RefusalsTest::fourSaved);
        situation("states that fell out", 6, 4, 40, 63, RefusalsTest::manySaved);
        situation("states that fell out, then undone", 6, 3, 40, 0, RefusalsTest::undone);
        situation("24 messages", 5, 24, 20, 3, RefusalsTest::fullOfMessages);
        situation("24 messages, none dead", 6, 24, NO_NODE, 63, RefusalsTest::fullAndWhole);
        C.end();
    }

    // ---- the cubes

    private static FaultyCube allDeadAtOnce() {
        FaultyCube x = Cubes.of(5);
        x.killAll(-1);
        return x;
    }

    private static FaultyCube emptiedStack() {
        FaultyCube x = new FaultyCube();
        x.send(3, 0);
        for (int i = 0; i < 4; i++) {
            x.step(1);
        }
        for (int i = 0; i < 4; i++) {
            x.undo();
        }
        return x;
    }

    private static FaultyCube oneSaved() {
        FaultyCube x = new FaultyCube();
        x.kill(9);
        return x;
    }

    private static FaultyCube fourSaved() {
        FaultyCube x = Cubes.of(3, 1, 2);
        x.send(0, 3);
        return x;
    }

    private static FaultyCube manySaved() {
        FaultyCube x = Cubes.of(6, 1, 40, 33);
        x.send(0, 63);
        x.send(5, 5);
        x.send(62, 2);
        x.step(2);
        x.kill(2);
        x.revive(33);
        x.send(0, 3);
        x.killAll(0);
        x.step(1);
        return x;
    }

    private static FaultyCube undone() {
        FaultyCube x = manySaved();
        x.undo();
        x.undo();
        x.undo();
        return x;
    }

    private static FaultyCube fullOfMessages() {
        FaultyCube x = Cubes.of(5, 20);
        for (int i = 0; i < 24; i++) {
            x.send(0, i % 8);
        }
        x.step(3);
        x.kill(7);
        x.step(1);
        return x;
    }

    private static FaultyCube fullAndWhole() {
        FaultyCube x = Cubes.of(6);
        for (int i = 0; i < 24; i++) {
            x.send(63, 63);
        }
        return x;
    }

    // ---- the refused calls

    /** The dead node and the living one may be NO_NODE, where there is none. */
    private static void situation(String name, int d, int messages, int dead, int alive,
            Recipe recipe) {
        Situation s = new Situation(name, recipe, d, messages);
        for (int bad : Cubes.outside(0, (1 << d) - 1)) {
            badNode(s, bad, dead, alive);
        }
        for (int node : new int[] {dead, alive}) {
            if (node != NO_NODE) {
                otherArguments(s, node);
            }
        }
        if (dead != NO_NODE && alive != NO_NODE) {
            badIndex(s, dead, alive);
            badIndex(s, alive, dead);
        }
        arguments(s);
        states(s, dead, alive);
        check(s);
    }

    /** A node that does not exist, beside others that are dead, alive or do not exist. */
    private static void badNode(Situation s, int bad, int dead, int alive) {
        s.argument("kill(" + bad + ")", x -> x.kill(bad));
        s.argument("revive(" + bad + ")", x -> x.revive(bad));
        s.argument("isAlive(" + bad + ")", x -> x.isAlive(bad) ? 1 : 0);
        s.argument("level(" + bad + ")", x -> x.level(bad));
        s.argument("vectorBit(" + bad + ", 1)", x -> x.vectorBit(bad, 1));
        s.argument("vectorBit(" + bad + ", 0)", x -> x.vectorBit(bad, 0));
        s.argument("reach(" + bad + ", 0)", x -> x.reach(bad, 0));
        s.argument("reach(" + bad + ", 3)", x -> x.reach(bad, 3));
        s.argument("broadcastSize(" + bad + ")", x -> x.broadcastSize(bad));
        badPair(s, bad, bad);
        for (int other : new int[] {dead, alive}) {
            if (other != NO_NODE) {
                badPair(s, bad, other);
                badPair(s, other, bad);
            }
        }
    }

    private static void badPair(Situation s, int from, int to) {
        String pair = "(" + from + ", " + to + ")";
        s.argument("distance" + pair, x -> x.distance(from, to));
        s.argument("shortest" + pair, x -> x.shortest(from, to));
        s.argument("decide" + pair, x -> x.decide(from, to));
        s.argument("routeLength" + pair, x -> x.routeLength(from, to));
        s.argument("routeNode, 0" + pair, x -> x.routeNode(from, to, 0));
        s.argument("broadcastTime" + pair, x -> x.broadcastTime(from, to));
        s.argument("disjointPaths" + pair, x -> x.disjointPaths(from, to));
        s.argument("send" + pair, x -> x.send(from, to));
        badIndex(s, from, to);
    }

    private static void badIndex(Situation s, int from, int to) {
        for (int bad : new int[] {-1, -64, Integer.MIN_VALUE}) {
            s.argument("routeNode(" + from + ", " + to + ", " + bad + ")",
                    x -> x.routeNode(from, to, bad));
        }
    }

    /** A node that exists, dead or alive, beside an argument that is out of range. */
    private static void otherArguments(Situation s, int node) {
        for (int bad : Cubes.outside(1, s.dimension)) {
            s.argument("vectorBit(" + node + ", " + bad + ")", x -> x.vectorBit(node, bad));
        }
        for (int bad : Cubes.outside(0, 2)) {
            s.argument("reach(" + node + ", " + bad + ")", x -> x.reach(node, bad));
        }
        badIndex(s, node, node);
        s.argument("disjointPaths, twice " + node, x -> x.disjointPaths(node, node));
    }

    private static void arguments(Situation s) {
        for (int bad : Cubes.outside(1, 6)) {
            s.argument("setDimension(" + bad + ")", x -> x.setDimension(bad));
        }
        for (int bad : Cubes.outside(0, s.dimension)) {
            s.argument("freeSubcubes(" + bad + ")", x -> x.freeSubcubes(bad));
        }
        for (int bad : Cubes.outside(1, 20)) {
            s.argument("step(" + bad + ")", x -> x.step(bad));
        }
        for (int bad : Cubes.outside(0, s.messages - 1)) {
            s.argument("state(" + bad + ")", x -> x.state(bad));
            s.argument("position(" + bad + ")", x -> x.position(bad));
            s.argument("moves(" + bad + ")", x -> x.moves(bad));
        }
        for (int bad : Cubes.outside(0, 2)) {
            s.argument("count(" + bad + ")", x -> x.count(bad));
        }
    }

    private static void states(Situation s, int dead, int alive) {
        if (alive != NO_NODE) {
            s.state("revive(" + alive + ")", x -> x.revive(alive));
        }
        if (alive != NO_NODE && s.messages == 24) {
            s.state("send, the 25th message", x -> x.send(alive, alive));
            s.state("send, the 25th message, to another", x -> x.send(alive, alive ^ 1));
        }
        if (dead != NO_NODE) {
            deadNode(s, dead);
            deadPair(s, dead, dead);
        }
        if (dead != NO_NODE && alive != NO_NODE) {
            deadPair(s, dead, alive);
            deadPair(s, alive, dead);
            s.state("broadcastTime, from dead", x -> x.broadcastTime(dead, alive));
            s.state("disjointPaths, from dead", x -> x.disjointPaths(dead, alive));
            s.state("disjointPaths, to dead", x -> x.disjointPaths(alive, dead));
        }
        if (s.name.equals("a new object") || s.name.equals("an emptied stack")) {
            s.state("undo()", x -> x.undo());
        }
    }

    private static void deadNode(Situation s, int dead) {
        s.state("kill(" + dead + ")", x -> x.kill(dead));
        s.state("broadcastSize(" + dead + ")", x -> x.broadcastSize(dead));
        s.state("broadcastTime, from dead to itself", x -> x.broadcastTime(dead, dead));
        for (int decision = 0; decision <= 2; decision++) {
            int which = decision;
            s.state("reach(" + dead + ", " + which + ")", x -> x.reach(dead, which));
        }
    }

    private static void deadPair(Situation s, int from, int to) {
        String pair = "(" + from + ", " + to + ")";
        s.state("shortest" + pair, x -> x.shortest(from, to));
        s.state("decide" + pair, x -> x.decide(from, to));
        s.state("routeLength" + pair, x -> x.routeLength(from, to));
        s.state("routeNode, 0" + pair, x -> x.routeNode(from, to, 0));
        s.state("routeNode, far" + pair, x -> x.routeNode(from, to, Integer.MAX_VALUE));
        s.state("send" + pair, x -> x.send(from, to));
    }

    // ---- what they must leave behind

    private static void check(Situation s) {
        String untouched = portrait(s, s.recipe.make());
        for (int i = 0; i < s.calls.size(); i++) {
            FaultyCube x = s.recipe.make();
            C.dueText(s.name + ": " + s.names.get(i), s.exceptions.get(i), answer(s, i, x));
            C.dueText(s.name + ", after " + s.names.get(i), untouched, portrait(s, x));
        }
        for (int first = 0; first < s.calls.size(); first += CALLS_ON_ONE_CUBE) {
            FaultyCube x = s.recipe.make();
            for (int i = first; i < s.calls.size() && i < first + CALLS_ON_ONE_CUBE; i++) {
                C.dueText(s.name + ", among others: " + s.names.get(i), s.exceptions.get(i),
                        answer(s, i, x));
            }
            C.dueText(s.name + ", after many calls", untouched, portrait(s, x));
        }
    }

    private static String answer(Situation s, int call, FaultyCube x) {
        try {
            return Long.toString(s.calls.get(call).answer(x));
        } catch (RuntimeException e) {
            return "throws " + e.getClass().getName();
        }
    }

    /** All that can be asked, as it is now and after each undo() until none is left. */
    private static String portrait(Situation s, FaultyCube x) {
        StringBuilder text = new StringBuilder();
        for (int node = 0; node < 1 << s.dimension; node++) {
            text.append(x.isAlive(node) ? 'a' : 'd').append(x.level(node));
        }
        for (int message = 0; message < s.messages; message++) {
            text.append(" m").append(x.state(message)).append(',').append(x.position(message))
                    .append(',').append(x.moves(message));
        }
        text.append(outline(x));
        boolean more = true;
        for (int i = 0; i < 6 && more; i++) {
            try {
                text.append(" undo ").append(x.undo()).append(outline(x));
            } catch (IllegalStateException e) {
                more = false;
            }
        }
        return text.append(more ? " and more" : " and no more").toString();
    }

    /** The digest tells the levels, the dead nodes by them, all messages and the steps. */
    private static String outline(FaultyCube x) {
        return " [" + x.digest() + " " + x.rounds() + " " + x.safeNodes() + " "
                + x.freeSubcubes(0) + " " + x.largestSubcube() + " " + x.count(0) + " "
                + x.count(1) + " " + x.count(2) + "]";
    }
}
