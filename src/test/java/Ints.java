/** The numbers at the edges of a range. */
final class Ints {
    static final int LEAST = Integer.MIN_VALUE;
    static final int GREATEST = Integer.MAX_VALUE;

    private Ints() {
    }

    /** Just outside a range, and as far outside as an int can be. An empty range has most = least - 1. */
    static int[] outside(int least, int most) {
        return new int[] {least - 1, most + 1, LEAST, GREATEST};
    }

    static boolean isIn(int n, int least, int most) {
        return n >= least && n <= most;
    }
}
