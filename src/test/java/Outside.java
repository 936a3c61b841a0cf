import java.util.stream.IntStream;

/** Numbers that lie outside a range that begins with 0. */
final class Outside {
    private static final int NEAR = 40;

    private Outside() {
    }

    /** Those near 0 .. greatest (at most 255), some that look small without their high bits, and the last ints. */
    static int[] of(int greatest) {
        IntStream below = IntStream.rangeClosed(-NEAR, -1);
        IntStream above = IntStream.rangeClosed(greatest + 1, greatest + NEAR);
        IntStream far = IntStream.of(1 << 8, 1 << 16, 1 << 24, 1 << 30, -(1 << 8), -(1 << 16), -(1 << 24), -(1 << 30),
                Integer.MIN_VALUE, Integer.MIN_VALUE + 1, Integer.MAX_VALUE - 1, Integer.MAX_VALUE);
        return IntStream.concat(IntStream.concat(below, above), far).toArray();
    }
}
