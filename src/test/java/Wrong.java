import java.util.stream.IntStream;

/** Numbers outside a range: the nearest, the farthest, and those that a shift or product may bring back. */
final class Wrong {
    private static final int[] GREAT = {5, 7, 8, 9, 15, 16, 17, 31, 32, 33, 63, 64, 65, 127, 128, 255, 256, 257,
        1 << 15, 1 << 16, 1 << 24, 1 << 27, 1 << 28, 1 << 29, 1 << 30, (1 << 30) + 1,
        Integer.MAX_VALUE - 1, Integer.MAX_VALUE};

    private Wrong() {
    }

    static IntStream below(int least) {
        IntStream far = IntStream.of(GREAT).map(n -> -1 - n).filter(n -> n < least - 3);
        return IntStream.concat(IntStream.of(least - 1, least - 2, least - 3), far);
    }

    static IntStream from(int bound) {
        IntStream far = IntStream.of(GREAT).filter(n -> n > bound + 2);
        return IntStream.concat(IntStream.of(bound, bound + 1, bound + 2), far);
    }

    static IntStream outside(int bound) {
        return IntStream.concat(below(0), from(bound));
    }
}
