/**
 * All cubes of the dimensions 1 to 3 with every set of dead nodes, from none to all: every
 * question with every argument from just below its range to just above it, and every message
 * on its way, against PlainCube.
 */
public final class SmallCubesTest {
    private static final int CALLS_OF_ONE_CUBE = 500;

    private static long made = 0;
    private static int wrong = 0;

    private static int dimension;
    private static int deadSet;
    private static FaultyCube cube;
    private static PlainCube plain;
    private static int used;

    private interface Question {
        long answer();
    }

    public static void main(String[] args) {
        for (dimension = 1; dimension <= 3; dimension++) {
            for (deadSet = 0; deadSet < 1 << (1 << dimension); deadSet++) {
                begin();
                wholeCube();
                for (int a = -1; a <= 1 << dimension; a++) {
                    oneArgument(a);
                    for (int b = -1; b <= 1 << dimension; b++) {
                        twoArguments(a, b);
                        messages(a, b);
                    }
                }
            }
        }
        System.out.println("SmallCubesTest: " + made + " calls, " + wrong + " wrong");
        System.exit(wrong == 0 ? 0 : 1);
    }

    /** A new cube, so that no object is used for more than 512 calls. */
    private static void begin() {
        cube = new FaultyCube();
        plain = new PlainCube();
        used = 0;
        check("setDimension", () -> cube.setDimension(dimension),
                () -> plain.setDimension(dimension));
        check("killAll", () -> cube.killAll(deadSet), () -> plain.killAll(deadSet));
    }

    private static void check(String what, Question asked, Question due) {
        String want = text(due);
        String got = text(asked);
        made++;
        used++;
        if (!want.equals(got)) {
            wrong++;
            if (wrong < 50) {
                System.out.println("SmallCubesTest: dimension " + dimension + ", dead set "
                        + deadSet + ": " + what + " answered " + got + ", due is " + want);
            }
        }
    }

    private static String text(Question question) {
        try {
            return Long.toString(question.answer());
        } catch (RuntimeException e) {
            return "throws " + e.getClass().getName();
        }
    }

    private static void wholeCube() {
        check("rounds()", () -> cube.rounds(), () -> plain.rounds());
        check("safeNodes()", () -> cube.safeNodes(), () -> plain.safeNodes());
        check("largestSubcube()", () -> cube.largestSubcube(), () -> plain.largestSubcube());
        check("digest()", () -> cube.digest(), () -> plain.digest());
    }

    private static void oneArgument(int a) {
        if (used > CALLS_OF_ONE_CUBE - 10) {
            begin();
        }
        String of = "(" + a + ")";
        check("isAlive" + of, () -> cube.isAlive(a) ? 1 : 0, () -> plain.isAlive(a));
        check("level" + of, () -> cube.level(a), () -> plain.level(a));
        check("broadcastSize" + of, () -> cube.broadcastSize(a), () -> plain.broadcastSize(a));
        check("freeSubcubes" + of, () -> cube.freeSubcubes(a), () -> plain.freeSubcubes(a));
        check("count" + of, () -> cube.count(a), () -> plain.count(a));
        check("state" + of, () -> cube.state(a), () -> plain.state(a));
    }

    private static void twoArguments(int a, int b) {
        if (used > CALLS_OF_ONE_CUBE - 20) {
            begin();
        }
        String of = "(" + a + ", " + b + ")";
        check("distance" + of, () -> cube.distance(a, b), () -> plain.distance(a, b));
        check("shortest" + of, () -> cube.shortest(a, b), () -> plain.shortest(a, b));
        check("vectorBit" + of, () -> cube.vectorBit(a, b), () -> plain.vectorBit(a, b));
        check("decide" + of, () -> cube.decide(a, b), () -> plain.decide(a, b));
        check("routeLength" + of, () -> cube.routeLength(a, b), () -> plain.routeLength(a, b));
        check("reach" + of, () -> cube.reach(a, b), () -> plain.reach(a, b));
        check("broadcastTime" + of, () -> cube.broadcastTime(a, b),
                () -> plain.broadcastTime(a, b));
        check("disjointPaths" + of, () -> cube.disjointPaths(a, b),
                () -> plain.disjointPaths(a, b));
        for (int i = -1; i <= dimension + 3; i++) {
            int index = i;
            check("routeNode" + of + " at " + i, () -> cube.routeNode(a, b, index),
                    () -> plain.routeNode(a, b, index));
        }
    }

    /** Two messages the same way: one waits; and as many steps as either can take. */
    private static void messages(int from, int to) {
        if (used > CALLS_OF_ONE_CUBE - 40) {
            begin();
        }
        String of = "(" + from + ", " + to + ")";
        int sent = 0;
        for (int i = 0; i < 2; i++) {
            check("send" + of, () -> cube.send(from, to), () -> plain.send(from, to));
            sent += plain.count(0) + plain.count(1) > i ? 1 : 0;
        }
        for (int i = 0; i < 12 && sent > 0; i++) {
            check("step(1)" + of, () -> cube.step(1), () -> plain.step(1));
            check("digest()" + of, () -> cube.digest(), () -> plain.digest());
        }
        if (sent > 0) {
            begin();
        }
    }
}
