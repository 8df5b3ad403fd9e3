import java.util.stream.IntStream;

/** Numbers outside a range: the nearest, the farthest, and those that a shift or product may bring back. */
final class Wrong {
    private static final int NEAR = 10;
    private static final int[] FAR = {15, 16, 17, 31, 32, 33, 63, 64, 65, 127, 128, 255, 256, 257, 1 << 15, 1 << 16,
        1 << 24, 1 << 27, 1 << 28, 1 << 29, 1 << 30, (1 << 30) + 1, Integer.MAX_VALUE - 1, Integer.MAX_VALUE};

    private Wrong() {
    }

    static IntStream below(int least) {
        IntStream far = IntStream.of(FAR).map(n -> -1 - n).filter(n -> n < least - NEAR);
        return IntStream.concat(IntStream.range(least - NEAR, least), far);
    }

    static IntStream from(int bound) {
        IntStream far = IntStream.of(FAR).filter(n -> n >= bound + NEAR);
        return IntStream.concat(IntStream.range(bound, bound + NEAR), far);
    }

    static IntStream outside(int bound) {
        return IntStream.concat(below(0), from(bound));
    }
}
