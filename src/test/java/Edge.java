import java.util.stream.IntStream;

/** Numbers at a bound, beside it, and far off. */
final class Edge {
    static final int NONE = ApronDesk.NONE;
    static final int LEAST = Integer.MIN_VALUE;
    static final int GREATEST = Integer.MAX_VALUE;

    /** A call with one number left open; one that answers true or false goes through flag(). */
    interface Call {
        int on(ApronDesk desk, int number);
    }

    private Edge() {
    }

    static int flag(boolean done) {
        return done ? 1 : NONE;
    }

    /** Both bounds and their neighbours within. */
    static int[] inside(int least, int most) {
        return IntStream.of(least, least + 1, most - 1, most)
                .filter(x -> x >= least && x <= most).distinct().toArray();
    }

    /** One below, one above, the least and the greatest int, and one that a cut to 16 bits would let in. */
    static int[] outside(int least, int most) {
        return new int[] {least - 1, most + 1, LEAST, LEAST + 1, GREATEST - 1, GREATEST, least + 65_536};
    }
}
