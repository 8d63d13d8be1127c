/** The numbers at which a document's limits are tried. */
final class Edges {
    /** The ends of long, and what lies beside them and beside 0. */
    static final long[] LONGS = {Long.MIN_VALUE, Long.MIN_VALUE + 1, -1, 0, 1, Long.MAX_VALUE - 1,
        Long.MAX_VALUE, Integer.MIN_VALUE - 1L, Integer.MAX_VALUE + 1L};

    private Edges() {
    }

    /**
     * Numbers that are not in 0 .. limit - 1: the first one on either side, the ends of int, and
     * those that would be right again if a number were cut to a byte, a short or its magnitude.
     */
    static int[] wrong(int limit) {
        return new int[] {-1, limit, limit + 1, -limit, Integer.MIN_VALUE, Integer.MAX_VALUE, 256, -256,
            65536, -65536, Integer.MIN_VALUE + 1, Integer.MAX_VALUE - 1};
    }
}
