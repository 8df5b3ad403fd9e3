/** Promise 14: run, and the execution rules. */
public final class P14RunTest {
    private static final int RUNNING = DecentLabels.ST_RUNNING;
    private static final int HALTED = DecentLabels.ST_HALTED;

    public static void main(String[] args) {
        nothingUnlessRunning();
        stepsAreClamped();
        haltsAtTheEnd();
        arithmetic();
        branches();
        loops();
        nestedBlocks();
        stepByStep();
        fullChannel();
        keepsTheRest();
        Due.end("P14RunTest");
    }

    private static void nothingUnlessRunning() {
        DecentLabels x = new DecentLabels(2, 8);
        x.addStmt(DecentLabels.K_SET, 0, 5, 0);
        x.setInput(1, 3);
        Samples.refused("run unchecked", x, Seen.of(x), x.run(5), DecentLabels.ST_UNCHECKED);
        x.check();
        Samples.refused("run ready", x, Seen.of(x), x.run(5), DecentLabels.ST_READY);
        x.start();
        x.run(5);
        Samples.refused("run halted", x, Seen.of(x), x.run(5), HALTED);
        x.addStmt(DecentLabels.K_END, 0, 0, 0);
        x.check();
        Samples.refused("run after a failed check", x, Seen.of(x), x.run(5), DecentLabels.ST_UNCHECKED);
    }

    private static void stepsAreClamped() {
        // v0 counts the rounds; a round is four steps, and two come before the first.
        DecentLabels x = Programs.started(Programs.set(1, 1), Programs.set(2, 1), Programs.loop(1),
            Programs.calc(DecentLabels.K_ADD, 0, 0, 2), Programs.set(3, 3), Programs.END);
        int[] few = {1, 0, -1, Integer.MIN_VALUE};
        for (int i = 0; i < few.length; i++) {
            Due.is("run(" + few[i] + ")", x.run(few[i]), RUNNING);
            Due.is("one step", x.getValue(DecentLabels.SLOT_POSITION), i + 1);
        }
        int[] many = {1000, 1001, Integer.MAX_VALUE};
        for (int i = 0; i < many.length; i++) {
            Due.is("run(" + many[i] + ")", x.run(many[i]), RUNNING);
            Due.is("a thousand steps", x.getValue(0), 250 * (i + 1) + 1);
            Due.is("a thousand steps", x.getValue(DecentLabels.SLOT_POSITION), 4);
        }
        Due.is("run(999)", x.run(999), RUNNING);
        Due.is("999 steps", x.getValue(DecentLabels.SLOT_POSITION), 3);
        Due.is("run(2)", x.run(2), RUNNING);
        Due.is("two steps", x.getValue(DecentLabels.SLOT_POSITION), 5);
    }

    private static void haltsAtTheEnd() {
        DecentLabels x = Programs.started();
        Due.is("started", x.getValue(DecentLabels.SLOT_STATUS), RUNNING);
        Due.is("empty program", x.run(1), HALTED);
        x = Programs.started(Programs.set(0, 1), Programs.set(0, 2), Programs.set(0, 3));
        Due.is("two of three", x.run(2), RUNNING);
        Due.is("position", x.getValue(DecentLabels.SLOT_POSITION), 2);
        Due.is("value", x.getValue(0), 2);
        Due.is("the last allowed step is the last", x.run(1), HALTED);
        Due.is("value", x.getValue(0), 3);
        Due.is("position", x.getValue(DecentLabels.SLOT_POSITION), 3);
        x = Programs.started(Programs.loop(0), Programs.END);
        Due.is("a jump to the end", x.run(1), HALTED);
        Due.is("position", x.getValue(DecentLabels.SLOT_POSITION), 2);
    }

    private static int result(int kind, int b, int c) {
        DecentLabels x = Programs.started(Programs.set(14, b), Programs.set(15, c), Programs.set(13, 99),
            Programs.calc(kind, 13, 14, 15));
        Due.is("run(4)", x.run(4), HALTED);
        Due.is("b is kept", x.getValue(14), b);
        Due.is("c is kept", x.getValue(15), c);
        return x.getValue(13);
    }

    private static void arithmetic() {
        int[] values = {0, 1, -1, 2, 46341, -46341, 65536, Integer.MAX_VALUE, Integer.MIN_VALUE};
        for (int b : values) {
            for (int c : values) {
                String of = " of " + b + " and " + c;
                Due.is("ADD" + of, result(DecentLabels.K_ADD, b, c), (int) ((long) b + c));
                Due.is("SUB" + of, result(DecentLabels.K_SUB, b, c), (int) ((long) b - c));
                Due.is("MUL" + of, result(DecentLabels.K_MUL, b, c), (int) ((long) b * c));
                Due.is("LESS" + of, result(DecentLabels.K_LESS, b, c), (long) b < c ? 1 : 0);
                Due.is("EQUAL" + of, result(DecentLabels.K_EQUAL, b, c), b == c ? 1 : 0);
            }
            Due.is("MOVE", result(DecentLabels.K_MOVE, b, 7), b);
            Due.is("DECLASSIFY", result(DecentLabels.K_DECLASSIFY, b, 7), b);
        }
        DecentLabels x = Programs.started(Programs.set(0, 6), Programs.calc(DecentLabels.K_MUL, 0, 0, 0),
            Programs.calc(DecentLabels.K_SUB, 0, 0, 0));
        x.run(2);
        Due.is("one variable for all", x.getValue(0), 36);
        x.run(1);
        Due.is("one variable for all", x.getValue(0), 0);
    }

    private static void pathIs(DecentLabels x, int... positions) {
        for (int i = 0; i < positions.length; i++) {
            boolean last = i == positions.length - 1;
            Due.is("step " + i, x.run(1), last ? HALTED : RUNNING);
            Due.is("position after step " + i, x.getValue(DecentLabels.SLOT_POSITION), positions[i]);
        }
    }

    private static void branches() {
        for (int condition = -1; condition <= 1; condition++) {
            DecentLabels x = Programs.started(Programs.set(0, condition), Programs.when(0), Programs.set(1, 5),
                Programs.END, Programs.set(2, 6));
            if (condition != 0) {
                pathIs(x, 1, 2, 3, 4, 5);
            } else {
                pathIs(x, 1, 4, 5);
            }
            Due.is("then-part", x.getValue(1), condition != 0 ? 5 : 0);
            x = Programs.started(Programs.set(0, condition), Programs.when(0), Programs.set(1, 5),
                Programs.ELSE, Programs.set(1, 6), Programs.END, Programs.set(2, 6));
            if (condition != 0) {
                pathIs(x, 1, 2, 3, 6, 7);
            } else {
                pathIs(x, 1, 4, 5, 6, 7);
            }
            Due.is("then or else", x.getValue(1), condition != 0 ? 5 : 6);
        }
        pathIs(Programs.started(Programs.when(0), Programs.ELSE, Programs.END), 2, 3);
        pathIs(Programs.started(Programs.set(0, 1), Programs.when(0), Programs.ELSE, Programs.END), 1, 2, 4);
        pathIs(Programs.started(Programs.set(0, 1), Programs.when(0), Programs.END), 1, 2, 3);
    }

    private static void loops() {
        int[] minus = Programs.calc(DecentLabels.K_SUB, 0, 0, 1);
        DecentLabels x = Programs.started(Programs.set(0, 2), Programs.set(1, 1), Programs.loop(0), minus,
            Programs.END, Programs.set(2, 9));
        pathIs(x, 1, 2, 3, 4, 2, 3, 4, 2, 5, 6);
        pathIs(Programs.started(Programs.loop(0), Programs.set(1, 1), Programs.END, Programs.set(2, 1)), 3, 4);
        x = Programs.started(Programs.set(0, -1), Programs.loop(0), Programs.END);
        Due.is("without end", x.run(1000), RUNNING);
        Due.is("without end", x.getValue(DecentLabels.SLOT_POSITION), 2);
    }

    private static void nestedBlocks() {
        // 3 rounds outside, and inside as many rounds as are left; odd counts go to channel 1.
        int[] one = Programs.set(15, 1);
        DecentLabels x = Programs.started(Programs.set(0, 3), one, Programs.loop(0),
            Programs.move(1, 0), Programs.loop(1),
            Programs.calc(DecentLabels.K_EQUAL, 2, 1, 15), Programs.when(2), Programs.out(1, 0),
            Programs.ELSE, Programs.out(2, 1), Programs.END,
            Programs.calc(DecentLabels.K_SUB, 1, 1, 15), Programs.END,
            Programs.calc(DecentLabels.K_SUB, 0, 0, 15), Programs.END, Programs.out(3, 15));
        Due.is("nested", x.run(1000), HALTED);
        int[][] due = {{}, {3, 2, 1}, {3, 2, 2}, {1}};
        for (int c = 0; c < 4; c++) {
            Due.is("count of channel " + c, x.outCount(c), due[c].length);
            for (int i = 0; i < due[c].length; i++) {
                Due.is("value " + i + " of channel " + c, x.outValue(c, i), due[c][i]);
            }
        }
        int[][] deep = new int[17][];
        for (int i = 0; i < 8; i++) {
            deep[i] = Programs.when(0);
            deep[16 - i] = Programs.END;
        }
        deep[8] = Programs.set(1, 4);
        x = Programs.started(deep);
        Due.is("all skipped", x.run(1), HALTED);
        x.setInput(0, 1);
        x.start();
        Due.is("all entered", x.run(16), RUNNING);
        Due.is("all entered", x.run(1), HALTED);
        Due.is("all entered", x.getValue(1), 4);
    }

    // The same program in slices of any size ends in the same state.
    private static void stepByStep() {
        DecentLabels whole = countdown();
        whole.run(1000);
        for (int slice = 1; slice < 30; slice++) {
            DecentLabels x = countdown();
            int calls = 0;
            while (x.run(slice) == RUNNING && calls < 100) {
                calls++;
            }
            Due.same("slices of " + slice, Seen.of(whole).changedTo(Seen.of(x)), "");
            // 2 steps before the loop, 5 rounds of 4, and the WHILE that ends it.
            Due.is("calls with slices of " + slice, calls + 1, (23 + slice - 1) / slice);
        }
    }

    private static DecentLabels countdown() {
        return Programs.started(Programs.set(0, 5), Programs.set(1, 1), Programs.loop(0),
            Programs.out(0, 0), Programs.calc(DecentLabels.K_SUB, 0, 0, 1), Programs.END);
    }

    private static void fullChannel() {
        DecentLabels x = Programs.started(Programs.set(0, 20), Programs.set(1, 1), Programs.loop(0),
            Programs.out(2, 0), Programs.calc(DecentLabels.K_SUB, 0, 0, 1), Programs.END, Programs.out(3, 1));
        Due.is("more than the channel holds", x.run(1000), HALTED);
        Due.is("full", x.outCount(2), 16);
        for (int i = 0; i < 16; i++) {
            Due.is("value " + i, x.outValue(2, i), 20 - i);
        }
        Due.is("the others", x.outCount(1), 0);
        Due.is("goes on after a full channel", x.outCount(3), 1);
        Due.is("its first value", x.outValue(3, 0), 1);
    }

    private static void keepsTheRest() {
        DecentLabels x = Samples.busy();
        Seen before = Seen.of(x);
        Due.is("run(2)", x.run(2), RUNNING);
        Due.same("run(2)", before.changedTo(Seen.of(x)), "value 3=-1, value 34=7");
        before = Seen.of(x);
        Due.is("run(2)", x.run(2), HALTED);
        Due.same("run(2)", before.changedTo(Seen.of(x)), "value 34=8, value 35=3");
    }
}
