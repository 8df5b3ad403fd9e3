/** Promise 16: outCount and outValue. */
public final class P16OutTest {
    private static final int[] WRONG = {-1, 4, 5, Integer.MIN_VALUE, Integer.MAX_VALUE};

    public static void main(String[] args) {
        partlyFilled();
        allFull();
        oldValuesAreGone();
        Due.end("P16OutTest");
    }

    private static void partlyFilled() {
        DecentLabels x = Samples.busy();
        Seen before = Seen.of(x);
        int[] counts = {2, 0, 0, 1};
        for (int c = 0; c < 4; c++) {
            Due.is("outCount(" + c + ")", x.outCount(c), counts[c]);
        }
        for (int c : WRONG) {
            Due.is("outCount(" + c + ")", x.outCount(c), -1);
            Due.is("outValue(" + c + ", 0)", x.outValue(c, 0), 0);
        }
        Due.is("outValue(0, 0)", x.outValue(0, 0), 7);
        Due.is("outValue(0, 1)", x.outValue(0, 1), -20);
        Due.is("outValue(3, 0)", x.outValue(3, 0), -20);
        int[] wrongPlaces = {-1, 2, 15, 16, 48, Integer.MIN_VALUE, Integer.MAX_VALUE, 1 << 28};
        for (int i : wrongPlaces) {
            Due.is("outValue(0, " + i + ")", x.outValue(0, i), 0);
        }
        Due.is("outValue(3, -48)", x.outValue(3, -48), 0);
        Due.is("outValue(3, 1)", x.outValue(3, 1), 0);
        Due.is("outValue(1, 0)", x.outValue(1, 0), 0);
        Due.same("reading the channels", before.changedTo(Seen.of(x)), "");
    }

    private static void allFull() {
        DecentLabels x = Programs.started(Programs.set(0, 17), Programs.set(1, 1), Programs.set(2, 100),
            Programs.loop(0), Programs.out(0, 0), Programs.calc(DecentLabels.K_ADD, 3, 0, 2), Programs.out(1, 3),
            Programs.calc(DecentLabels.K_ADD, 3, 3, 2), Programs.out(2, 3),
            Programs.calc(DecentLabels.K_ADD, 3, 3, 2), Programs.out(3, 3),
            Programs.calc(DecentLabels.K_SUB, 0, 0, 1), Programs.END);
        x.run(1000);
        for (int c = 0; c < 4; c++) {
            Due.is("full, outCount(" + c + ")", x.outCount(c), 16);
            for (int i = 0; i < 16; i++) {
                Due.is("full, outValue(" + c + ", " + i + ")", x.outValue(c, i), 100 * c + 17 - i);
            }
            Due.is("full, outValue(" + c + ", 16)", x.outValue(c, 16), 0);
            Due.is("full, outValue(" + c + ", -1)", x.outValue(c, -1), 0);
        }
    }

    private static void oldValuesAreGone() {
        DecentLabels x = Samples.busy();
        x.start();
        Due.is("after a new start", x.outCount(0), 0);
        Due.is("after a new start", x.outValue(0, 0), 0);
        x.run(2);
        Due.is("the first again", x.outCount(0), 1);
        Due.is("the second not yet", x.outValue(0, 1), 0);
    }
}
