/** The four examples of the document, row by row. */
public final class ExamplesTest {
    public static void main(String[] args) {
        Checks c = new Checks("ExamplesTest");
        levelsAndRoute(c);
        detour(c);
        sameWay(c);
        exceptions(c);
        c.end();
    }

    private static void levelsAndRoute(Checks c) {
        FaultyCube x = new FaultyCube();
        c.due("1: killAll(72)", 2, () -> x.killAll(72));
        c.due("1: level(1)", 4, () -> x.level(1));
        c.due("1: level(2)", 1, () -> x.level(2));
        c.due("1: rounds()", 1, () -> x.rounds());
        c.due("1: safeNodes()", 12, () -> x.safeNodes());
        c.due("1: decide(0, 15)", 0, () -> x.decide(0, 15));
        c.due("1: routeLength(0, 15)", 4, () -> x.routeLength(0, 15));
        c.due("1: routeNode(0, 15, 1)", 1, () -> x.routeNode(0, 15, 1));
    }

    private static void detour(Checks c) {
        FaultyCube x = new FaultyCube();
        c.due("2: setDimension(3)", 4, () -> x.setDimension(3));
        c.due("2: kill(1)", 0, () -> x.kill(1));
        c.due("2: kill(2)", 0, () -> x.kill(2));
        c.due("2: decide(0, 3)", 1, () -> x.decide(0, 3));
        c.due("2: shortest(0, 3)", 4, () -> x.shortest(0, 3));
        c.due("2: reach(0, 2)", 0, () -> x.reach(0, 2));
        c.due("2: disjointPaths(0, 7)", 1, () -> x.disjointPaths(0, 7));
        c.due("2: broadcastSize(0)", 5, () -> x.broadcastSize(0));
        c.due("2: largestSubcube()", 196, () -> x.largestSubcube());
    }

    private static void sameWay(Checks c) {
        FaultyCube x = new FaultyCube();
        c.due("3: send(0, 3)", 0, () -> x.send(0, 3));
        c.due("3: send(0, 3) again", 1, () -> x.send(0, 3));
        c.due("3: step(1)", 1, () -> x.step(1));
        c.due("3: position(0)", 1, () -> x.position(0));
        c.due("3: position(1)", 0, () -> x.position(1));
        c.due("3: step(2)", 3, () -> x.step(2));
        c.due("3: state(0)", 1, () -> x.state(0));
        c.due("3: state(1)", 1, () -> x.state(1));
        c.due("3: moves(1)", 2, () -> x.moves(1));
        c.due("3: kill(3)", 0, () -> x.kill(3));
        c.due("3: count(2)", 0, () -> x.count(2));
    }

    private static void exceptions(Checks c) {
        FaultyCube x = new FaultyCube();
        c.due("4: kill(0)", 0, () -> x.kill(0));
        c.badState("4: kill(0) again", x, () -> x.kill(0));
        c.badState("4: decide(0, 1)", x, () -> x.decide(0, 1));
        c.badArgument("4: level(16)", x, () -> x.level(16));
        c.due("4: undo()", 0, () -> x.undo());
        c.badState("4: undo() again", x, () -> x.undo());
    }
}
