/** Promise 16: outCount and outValue. */
public final class P16OutTest {
    public static void main(String[] args) {
        Due.test("outCount: -1 if c < 0", () -> Wrong.below(0).forEach(P16OutTest::noChannel));
        Due.test("outCount: -1 if c >= 4", () -> Wrong.from(4).forEach(P16OutTest::noChannel));
        Due.test("outCount: the number of values, from 0 to 16", P16OutTest::counts);
        Due.test("outValue: 0 if c < 0", () -> Wrong.below(0).forEach(c -> noValue(c, 0)));
        Due.test("outValue: 0 if c >= 4", () -> Wrong.from(4).forEach(c -> noValue(c, 0)));
        Due.test("outValue: 0 if i < 0", () -> Wrong.below(0).forEach(P16OutTest::noPlace));
        Due.test("outValue: 0 if i >= outCount(c)", () -> Wrong.from(2).forEach(P16OutTest::noPlace));
        Due.test("outValue: 0 though another channel's value stands there", P16OutTest::bothOutside);
        Due.test("outValue: 0 if i >= outCount(c), of an empty channel", P16OutTest::emptyChannels);
        Due.test("outValue: the i-th value, from the first to the last of a full channel", P16OutTest::allFull);
        Due.test("values of an earlier run are not seen", P16OutTest::oldValuesAreGone);
        Due.test("neither changes anything", P16OutTest::changesNothing);
        Due.end("P16OutTest");
    }

    private static void noChannel(int c) {
        Calls.refused("outCount(" + c + ")", -1, x -> x.outCount(c));
    }

    private static void noValue(int c, int i) {
        Calls.refused("outValue(" + c + ", " + i + ")", 0, x -> x.outValue(c, i));
    }

    // Channel 0 holds at most two values in any stage, and channel 3 one.
    private static void noPlace(int i) {
        noValue(0, i);
        noValue(3, i);
    }

    // Places that stand inside a table of the values although channel and place do not.
    private static void bothOutside() {
        noValue(-1, 16);
        noValue(4, -64);
        noValue(4, -16);
        noValue(3, -48);
        noValue(0, 48);
        noValue(3, 1);
    }

    private static void counts() {
        for (int c = 0; c < 4; c++) {
            DecentLabels x = Programs.started(Programs.set(0, 1), Programs.loop(0), Programs.out(c, 0), Programs.END);
            x.run(1);
            for (int count = 0; count <= 18; count++) {
                for (int other = 0; other < 4; other++) {
                    int due = other != c ? 0 : count < 16 ? count : 16;
                    Due.is("outCount(" + other + ") after " + count + " on " + c, x.outCount(other), due);
                }
                x.run(3);
            }
        }
    }

    private static void emptyChannels() {
        DecentLabels x = Stage.RUNNING.make();
        for (int i = -1; i <= 16; i++) {
            Due.is("outValue(1, " + i + ")", x.outValue(1, i), 0);
            Due.is("outValue(2, " + i + ")", x.outValue(2, i), 0);
        }
        x.check();
        Due.is("emptied by a check", x.outValue(0, 0), 0);
    }

    private static DecentLabels full() {
        DecentLabels x = Programs.started(Programs.set(0, 17), Programs.set(1, 1), Programs.set(2, 100),
            Programs.loop(0), Programs.out(0, 0), Programs.calc(DecentLabels.K_ADD, 3, 0, 2), Programs.out(1, 3),
            Programs.calc(DecentLabels.K_ADD, 3, 3, 2), Programs.out(2, 3),
            Programs.calc(DecentLabels.K_ADD, 3, 3, 2), Programs.out(3, 3),
            Programs.calc(DecentLabels.K_SUB, 0, 0, 1), Programs.END);
        x.run(1000);
        return x;
    }

    private static void allFull() {
        DecentLabels x = full();
        for (int c = 0; c < 4; c++) {
            Due.is("outCount(" + c + ")", x.outCount(c), 16);
            for (int i = 0; i < 16; i++) {
                Due.is("outValue(" + c + ", " + i + ")", x.outValue(c, i), 100 * c + 17 - i);
            }
            for (int i : Wrong.outside(16).toArray()) {
                Due.is("outValue(" + c + ", " + i + ")", x.outValue(c, i), 0);
            }
        }
        for (int c : Wrong.outside(4).toArray()) {
            Due.is("outCount(" + c + ")", x.outCount(c), -1);
            Due.is("outValue(" + c + ", 0)", x.outValue(c, 0), 0);
        }
    }

    private static void oldValuesAreGone() {
        DecentLabels x = full();
        x.start();
        for (int c = 0; c < 4; c++) {
            for (int i = 0; i < 16; i++) {
                Due.is("outValue(" + c + ", " + i + ") after a new start", x.outValue(c, i), 0);
            }
        }
        x.run(5);
        Due.is("the first again", x.outValue(0, 0), 17);
        Due.is("the second not yet", x.outValue(0, 1), 0);
        x.setAuthority(0);
        Due.is("outCount(0) after a RESET", x.outCount(0), 0);
        Due.is("outValue(0, 0) after a RESET", x.outValue(0, 0), 0);
    }

    private static void changesNothing() {
        for (int channel = -1; channel <= 4; channel++) {
            int c = channel;
            Calls.changesNothing("outCount(" + c + ")", x -> x.outCount(c));
            Calls.changesNothing("outValue(" + c + ", 0)", x -> x.outValue(c, 0));
            Calls.changesNothing("outValue(" + c + ", 2)", x -> x.outValue(c, 2));
        }
    }
}
