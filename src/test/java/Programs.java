/** Adds programs that are written as rows of four numbers. */
final class Programs {
    static final int[] ELSE = {DecentLabels.K_ELSE, 0, 0, 0};
    static final int[] END = {DecentLabels.K_END, 0, 0, 0};

    private Programs() {
    }

    static int[] set(int a, int constant) {
        return new int[] {DecentLabels.K_SET, a, constant, 0};
    }

    static int[] move(int a, int b) {
        return new int[] {DecentLabels.K_MOVE, a, b, 0};
    }

    static int[] calc(int kind, int a, int b, int c) {
        return new int[] {kind, a, b, c};
    }

    static int[] when(int a) {
        return new int[] {DecentLabels.K_IF, a, 0, 0};
    }

    static int[] loop(int a) {
        return new int[] {DecentLabels.K_WHILE, a, 0, 0};
    }

    static int[] out(int channel, int b) {
        return new int[] {DecentLabels.K_OUT, channel, b, 0};
    }

    static int[] declassify(int a, int b) {
        return new int[] {DecentLabels.K_DECLASSIFY, a, b, 0};
    }

    static void load(DecentLabels x, int[]... rows) {
        x.clearProgram();
        for (int[] row : rows) {
            x.addStmt(row[0], row[1], row[2], row[3]);
        }
    }

    static void checks(String what, DecentLabels x, int error, int index, int[]... rows) {
        load(x, rows);
        Due.is(what, x.check(), error * 256 + index);
        boolean passed = error == 0;
        Due.is(what + ", kept", x.getValue(DecentLabels.SLOT_CHECK), error * 256 + index);
        Due.is(what + ", status", x.getValue(DecentLabels.SLOT_STATUS),
            passed ? DecentLabels.ST_READY : DecentLabels.ST_UNCHECKED);
    }

    static void passes(String what, DecentLabels x, int[]... rows) {
        checks(what, x, 0, 0, rows);
    }

    /** A labelless object whose checked program stands at its start. */
    static DecentLabels started(int[]... rows) {
        DecentLabels x = new DecentLabels(2, 64);
        load(x, rows);
        Due.is("the program passes", x.check(), 0);
        Due.is("the program starts", x.start(), true);
        return x;
    }

    static void holds(DecentLabels x, int channel, int... values) {
        Due.is("outCount(" + channel + ")", x.outCount(channel), values.length);
        for (int i = 0; i < values.length; i++) {
            Due.is("outValue(" + channel + ", " + i + ")", x.outValue(channel, i), values[i]);
        }
    }
}
