/** Long runs of calls whose every answer must be that of PlainCube. */
public final class ModelTest {
    private static final int RUNS = 1500;
    private static final int CALLS = 512;
    private static final int METHODS = 28;

    private static int wrong = 0;
    private static long seed = 20261119L;

    private static int below(int bound) {
        seed = seed * 6364136223846793005L + 1442695040888963407L;
        return (int) ((seed >>> 33) % bound);
    }

    public static void main(String[] args) {
        long calls = 0;
        for (int run = 0; run < RUNS && wrong == 0; run++) {
            calls += oneRun(run);
        }
        System.out.println("ModelTest: " + calls + " calls, " + wrong + " wrong");
        System.exit(wrong == 0 ? 0 : 1);
    }

    private static int oneRun(int run) {
        FaultyCube x = new FaultyCube();
        PlainCube plain = new PlainCube();
        int dimension = 4;
        // Some runs kill much, some little; some revive much; some change the dimension often.
        int killing = 2 + below(6);
        int reviving = 1 + below(8);
        int changing = run % 10 == 0 ? 20 : 300;
        StringBuilder trace = new StringBuilder();
        if (run % 7 != 0) {
            dimension = 1 + run % 6;
            x.setDimension(dimension);
            plain.setDimension(dimension);
            trace.append("setDimension(" + dimension + ") ");
        }
        for (int call = 0; call < CALLS - 1; call++) {
            int method = 1 + below(METHODS - 1);
            if (below(changing) == 0) {
                method = 0;
            } else if (below(killing) == 0) {
                method = below(reviving + 1) > 0 ? 2 : below(3) > 0 ? 1 : 3;
            } else if (below(4) == 0) {
                method = 19 + below(2);
            }
            int a = argument(method, dimension);
            int b = argument(method, dimension);
            int index = below(9) - 1;
            String want = answer(plain, null, method, a, b, index);
            String got = answer(null, x, method, a, b, index);
            trace.append(method + "(" + a + "," + b + "," + index + ")=" + want + " ");
            if (!want.equals(got)) {
                wrong++;
                System.out.println("run " + run + ", due last is " + want + ", answered is "
                        + got + ": " + trace);
                return call;
            }
            if (method == 0 || method == 25) {
                dimension = dimensionOf(plain);
            }
        }
        return CALLS;
    }

    private static int dimensionOf(PlainCube plain) {
        int dimension = 1;
        while (dimension < 6 && !answer(plain, null, 16, dimension + 1, 0, 0).startsWith("t")) {
            dimension++;
        }
        return dimension;
    }

    /** Mostly a number that the method takes; now and then one just outside or far off. */
    private static int argument(int method, int dimension) {
        if (below(60) == 0) {
            int[] far = {Integer.MIN_VALUE, Integer.MAX_VALUE, -1, -64, 64, 1 << dimension, 32};
            return far[below(far.length)];
        }
        if (method == 0) {
            return below(8);
        }
        if (method == 3) {
            // A mask of few bits; a node number would only ever kill the lowest nodes.
            return 1 << below(32) | (below(4) == 0 ? 1 << below(32) : 0);
        }
        if (method == 20) {
            return below(6) == 0 ? below(22) : 1 + below(3);
        }
        if (method >= 21 && method <= 23) {
            return below(26);
        }
        if (method == 16 || method == 24) {
            return below(method == 16 ? dimension + 2 : 4) - (below(20) == 0 ? 1 : 0);
        }
        return below(1 << dimension);
    }

    private static String answer(PlainCube p, FaultyCube x, int method, int a, int b, int i) {
        try {
            long value = method < 14 ? early(p, x, method, a, b, i) : late(p, x, method, a, b);
            return Long.toString(value);
        } catch (IllegalArgumentException e) {
            return "throws.IllegalArgumentException";
        } catch (IllegalStateException e) {
            return "throws.IllegalStateException";
        }
    }

    private static long early(PlainCube p, FaultyCube x, int method, int a, int b, int i) {
        switch (method) {
            case 0: return x == null ? p.setDimension(a) : x.setDimension(a);
            case 1: return x == null ? p.kill(a) : x.kill(a);
            case 2: return x == null ? p.revive(a) : x.revive(a);
            case 3: return x == null ? p.killAll(a) : x.killAll(a);
            case 4: return x == null ? p.isAlive(a) : x.isAlive(a) ? 1 : 0;
            case 5: return x == null ? p.distance(a, b) : x.distance(a, b);
            case 6: return x == null ? p.shortest(a, b) : x.shortest(a, b);
            case 7: return x == null ? p.level(a) : x.level(a);
            case 8: return x == null ? p.rounds() : x.rounds();
            case 9: return x == null ? p.safeNodes() : x.safeNodes();
            case 10: return x == null ? p.vectorBit(a, i) : x.vectorBit(a, i);
            case 11: return x == null ? p.decide(a, b) : x.decide(a, b);
            case 12: return x == null ? p.routeLength(a, b) : x.routeLength(a, b);
            default: return x == null ? p.routeNode(a, b, i) : x.routeNode(a, b, i);
        }
    }

    private static long late(PlainCube p, FaultyCube x, int method, int a, int b) {
        int few = b % 5;
        switch (method) {
            case 14: return x == null ? p.broadcastTime(a, b) : x.broadcastTime(a, b);
            case 15: return x == null ? p.broadcastSize(a) : x.broadcastSize(a);
            case 16: return x == null ? p.freeSubcubes(a) : x.freeSubcubes(a);
            case 17: return x == null ? p.largestSubcube() : x.largestSubcube();
            case 18: return x == null ? p.disjointPaths(a, b) : x.disjointPaths(a, b);
            case 19: return x == null ? p.send(a, b) : x.send(a, b);
            case 20: return x == null ? p.step(a) : x.step(a);
            case 21: return x == null ? p.state(a) : x.state(a);
            case 22: return x == null ? p.position(a) : x.position(a);
            case 23: return x == null ? p.moves(a) : x.moves(a);
            case 24: return x == null ? p.count(a) : x.count(a);
            case 25: return x == null ? p.undo() : x.undo();
            case 26: return x == null ? p.reach(a, few) : x.reach(a, few);
            default: return x == null ? p.digest() : x.digest();
        }
    }
}
