/** Disjoint paths in many cubes with many dead nodes, where paths have to be laid anew. */
public final class PathsTest {
    private static final int CUBES = 6000;
    private static final int PAIRS = 24;

    /**
     * Cubes of dimension 6 in which a path is laid anew and others are found after that: the
     * goal from node 0, the number of paths, the dead nodes.
     */
    private static final int[][] LAID_ANEW = {
        {63, 4, 6, 8, 13, 14, 19, 22, 24, 26, 27, 28, 36, 38, 42, 43, 46, 49, 51, 52, 53, 56, 57,
            60, 61},
        {55, 4, 3, 6, 7, 11, 14, 16, 17, 18, 21, 22, 23, 27, 30, 31, 37, 40, 43, 48, 52, 57, 58,
            61, 62},
        {62, 5, 5, 7, 10, 11, 14, 18, 19, 20, 21, 22, 24, 26, 27, 28, 30, 36, 37, 40, 43, 44, 47,
            49, 50, 52, 57, 59, 61},
        {31, 5, 7, 13, 14, 21, 26, 28, 32, 34, 36, 37, 39, 40, 42, 43, 47, 49, 51, 54, 55, 57, 59,
            61, 63},
        {63, 2, 4, 7, 8, 11, 12, 14, 16, 19, 20, 22, 23, 26, 29, 33, 36, 39, 40, 41, 42, 44, 47,
            48, 51, 52, 55, 56, 62},
        {27, 3, 3, 4, 5, 6, 9, 10, 12, 18, 23, 24, 25, 28, 29, 30, 31, 32, 37, 38, 39, 40, 41, 42,
            43, 48, 51, 54, 58, 60}
    };

    private static final Checks C = new Checks("PathsTest");
    private static long seed = 29L;

    private static int below(int bound) {
        seed = seed * 6364136223846793005L + 1442695040888963407L;
        return (int) ((seed >>> 33) % bound);
    }

    public static void main(String[] args) {
        for (int[] row : LAID_ANEW) {
            laidAnew(row);
        }
        for (int i = 0; i < CUBES; i++) {
            oneCube(4 + i % 3, 1 + i % 6);
        }
        C.end();
    }

    private static void laidAnew(int[] row) {
        FaultyCube x = new FaultyCube();
        PlainCube plain = new PlainCube();
        x.setDimension(6);
        plain.setDimension(6);
        for (int i = 2; i < row.length; i++) {
            x.kill(row[i]);
            plain.kill(row[i]);
        }
        String what = "laid anew: disjointPaths(0, " + row[0] + ")";
        C.due(what, row[1], () -> x.disjointPaths(0, row[0]));
        C.due(what + ", the plain answer", row[1], () -> plain.disjointPaths(0, row[0]));
    }

    /** Of ten nodes some so many are dead as the density says. */
    private static void oneCube(int d, int density) {
        FaultyCube x = new FaultyCube();
        PlainCube plain = new PlainCube();
        x.setDimension(d);
        plain.setDimension(d);
        StringBuilder dead = new StringBuilder();
        for (int v = 0; v < 1 << d; v++) {
            if (below(10) < density) {
                x.kill(v);
                plain.kill(v);
                dead.append(" ").append(v);
            }
        }
        for (int i = 0; i < PAIRS; i++) {
            int from = below(1 << d);
            int to = below(1 << d);
            if (from != to && x.isAlive(from) && x.isAlive(to)) {
                C.due("disjointPaths(" + from + ", " + to + "), dimension " + d + ", dead" + dead,
                        plain.disjointPaths(from, to), () -> x.disjointPaths(from, to));
            }
        }
    }
}
