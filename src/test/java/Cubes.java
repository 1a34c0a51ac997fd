import java.util.Arrays;

/** Cubes and hashes that several tests want. */
final class Cubes {
    /** Numbers that are far outside every range, or whose low bits are those of a node. */
    private static final int[] FAR = {
        Integer.MIN_VALUE, Integer.MIN_VALUE + 1, Integer.MAX_VALUE, -64, 64, 65, 256, 1 << 16
    };

    private Cubes() {
    }

    /** A cube of this dimension with these dead nodes. */
    static FaultyCube of(int d, int... dead) {
        FaultyCube x = new FaultyCube();
        x.setDimension(d);
        for (int node : dead) {
            x.kill(node);
        }
        return x;
    }

    /** A cube of this dimension in which these nodes alone are alive. */
    static FaultyCube only(int d, int... alive) {
        FaultyCube x = new FaultyCube();
        x.setDimension(d);
        for (int node = 0; node < 1 << d; node++) {
            boolean kept = false;
            for (int v : alive) {
                kept |= v == node;
            }
            if (!kept) {
                x.kill(node);
            }
        }
        return x;
    }

    /** What stands behind the first few numbers of a row of a table. */
    static int[] rest(int[] row, int first) {
        int[] left = new int[row.length - first];
        System.arraycopy(row, first, left, 0, left.length);
        return left;
    }

    static long fold(long... values) {
        return foldOn(12805, values);
    }

    static long foldOn(long start, long... values) {
        long h = start;
        for (long v : values) {
            h = 31 * h + v;
        }
        return h;
    }

    /** Numbers outside a range: those beside its ends, and some far off. */
    static int[] outside(int least, int greatest) {
        int[] numbers = new int[FAR.length + 4];
        numbers[0] = least - 1;
        numbers[1] = greatest + 1;
        numbers[2] = least - 2;
        numbers[3] = greatest + 2;
        int found = 4;
        for (int far : FAR) {
            if (far < least || far > greatest) {
                numbers[found++] = far;
            }
        }
        return Arrays.copyOf(numbers, found);
    }
}
