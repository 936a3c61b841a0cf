import java.util.stream.IntStream;

/** Numbers that lie outside a range that begins with 0. */
final class Outside {
    private Outside() {
    }

    /** Those beside 0 .. greatest, some that would look small if bits were lost, and the last ints on both sides. */
    static int[] of(int greatest) {
        return IntStream.of(-1, greatest + 1, -2, greatest + 2, -greatest - 1, 32, 64, 256, 65536, -256, -65536,
                Integer.MIN_VALUE, Integer.MIN_VALUE + 1, Integer.MAX_VALUE - 1, Integer.MAX_VALUE)
                .filter(number -> number < 0 || number > greatest).toArray();
    }
}
