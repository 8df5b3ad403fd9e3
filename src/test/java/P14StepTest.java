/** Promise 14: what one statement does, by the execution rules. */
public final class P14StepTest {
    private static final int HALTED = DecentLabels.ST_HALTED;
    private static final int RUNNING = DecentLabels.ST_RUNNING;
    private static final int MIN = Integer.MIN_VALUE;
    private static final int MAX = Integer.MAX_VALUE;
    private static final int[] VALUES = {0, 1, -1, 2, 3, 46340, 46341, -46341, 65535, 65536, MAX - 1, MAX,
        MIN, MIN + 1};
    // Every one of these is not 0, though a part of it may be.
    private static final int[] TRUE = {1, -1, 2, 256, 65536, 1 << 30, MAX, MIN};

    public static void main(String[] args) {
        Due.test("SET: any int constant", P14StepTest::constants);
        Due.test("MOVE and DECLASSIFY: x[a] := x[b]", P14StepTest::copies);
        Due.test("ADD: 32-bit wrap", P14StepTest::adds);
        Due.test("SUB: 32-bit wrap", P14StepTest::subtracts);
        Due.test("MUL: 32-bit wrap", P14StepTest::multiplies);
        Due.test("LESS: signed, 1 or 0", P14StepTest::compares);
        Due.test("EQUAL: 1 or 0", P14StepTest::equals);
        Due.test("an assignment changes its own variable alone", P14StepTest::oneVariable);
        Due.test("the operands may be one variable", P14StepTest::sameVariable);
        Due.test("IF: x[a] != 0, then q+1", P14StepTest::ifTrue);
        Due.test("IF: otherwise just after its ELSE, else just after its END", P14StepTest::ifFalse);
        Due.test("ELSE: just after the END of its block", P14StepTest::elseJumps);
        Due.test("END: a WHILE's goes back to it, an IF's goes on", P14StepTest::endJumps);
        Due.test("WHILE: x[a] != 0, then q+1; otherwise just after its END", P14StepTest::whileSteps);
        Due.test("blocks inside blocks keep to their own ELSE and END", P14StepTest::nestedBlocks);
        Due.test("8 blocks deep", P14StepTest::deepBlocks);
        Due.test("OUT appends, in order, to its channel alone", P14StepTest::appends);
        Due.test("OUT on a channel holding 15 values appends the last", () -> fills(16));
        Due.test("OUT on a channel holding OUT_CAP values appends nothing, but moves on", () -> {
            fills(17);
            fills(20);
        });
        Due.test("a full channel is one step like another", P14StepTest::fullIsAStep);
        Due.end("P14StepTest");
    }

    private static int result(int kind, int b, int c) {
        DecentLabels x = Programs.started(Programs.set(14, b), Programs.set(15, c), Programs.set(13, 99),
            Programs.calc(kind, 13, 14, 15));
        Due.is("run(4)", x.run(4), HALTED);
        Due.is("b is kept", x.getValue(14), b);
        Due.is("c is kept", x.getValue(15), c);
        return x.getValue(13);
    }

    private static void constants() {
        for (int value : VALUES) {
            DecentLabels x = Programs.started(Programs.set(0, value), Programs.set(15, value));
            x.run(2);
            Due.is("v0", x.getValue(0), value);
            Due.is("v15", x.getValue(15), value);
        }
    }

    private static void copies() {
        for (int value : VALUES) {
            Due.is("MOVE", result(DecentLabels.K_MOVE, value, 7), value);
            Due.is("DECLASSIFY", result(DecentLabels.K_DECLASSIFY, value, 7), value);
        }
    }

    private interface Rule {
        long of(long b, long c);
    }

    private static void results(int kind, Rule rule) {
        for (int b : VALUES) {
            for (int c : VALUES) {
                Due.is("kind " + kind + " of " + b + " and " + c, result(kind, b, c), (int) rule.of(b, c));
            }
        }
    }

    private static void adds() {
        Due.is("MAX + 1", result(DecentLabels.K_ADD, MAX, 1), MIN);
        Due.is("MIN + -1", result(DecentLabels.K_ADD, MIN, -1), MAX);
        Due.is("MAX + MAX", result(DecentLabels.K_ADD, MAX, MAX), -2);
        Due.is("MIN + MIN", result(DecentLabels.K_ADD, MIN, MIN), 0);
        results(DecentLabels.K_ADD, (b, c) -> b + c);
    }

    private static void subtracts() {
        Due.is("MIN - 1", result(DecentLabels.K_SUB, MIN, 1), MAX);
        Due.is("MAX - -1", result(DecentLabels.K_SUB, MAX, -1), MIN);
        Due.is("0 - MIN", result(DecentLabels.K_SUB, 0, MIN), MIN);
        results(DecentLabels.K_SUB, (b, c) -> b - c);
    }

    private static void multiplies() {
        Due.is("65536 * 65536", result(DecentLabels.K_MUL, 65536, 65536), 0);
        Due.is("MIN * -1", result(DecentLabels.K_MUL, MIN, -1), MIN);
        Due.is("MAX * MAX", result(DecentLabels.K_MUL, MAX, MAX), 1);
        Due.is("46341 * 46341", result(DecentLabels.K_MUL, 46341, 46341), -2147479015);
        results(DecentLabels.K_MUL, (b, c) -> b * c);
    }

    private static void compares() {
        Due.is("MIN < MAX", result(DecentLabels.K_LESS, MIN, MAX), 1);
        Due.is("MAX < MIN", result(DecentLabels.K_LESS, MAX, MIN), 0);
        Due.is("-1 < 0", result(DecentLabels.K_LESS, -1, 0), 1);
        Due.is("0 < 0", result(DecentLabels.K_LESS, 0, 0), 0);
        results(DecentLabels.K_LESS, (b, c) -> b < c ? 1 : 0);
    }

    private static void equals() {
        Due.is("MIN == MIN", result(DecentLabels.K_EQUAL, MIN, MIN), 1);
        Due.is("MIN == MAX", result(DecentLabels.K_EQUAL, MIN, MAX), 0);
        Due.is("0 == 65536", result(DecentLabels.K_EQUAL, 0, 65536), 0);
        results(DecentLabels.K_EQUAL, (b, c) -> b == c ? 1 : 0);
    }

    private static void oneVariable() {
        int[] kinds = {1, 2, 3, 4, 5, 6, 7, 13};
        for (int kind : kinds) {
            for (int a = 0; a < 16; a++) {
                DecentLabels x = new DecentLabels(2, 8);
                for (int v = 0; v < 16; v++) {
                    x.setInput(v, 50 + v);
                }
                int b = (a + 3) % 16;
                x.addStmt(kind, a, b, (a + 7) % 16);
                x.check();
                x.start();
                Seen before = Seen.of(x);
                x.run(1);
                Seen due = before.with("value " + a + "=" + x.getValue(a), "value 34=1", "value 35=3");
                Due.same("kind " + kind + " into v" + a, due.changedTo(Seen.of(x)), "");
                Due.is("kind " + kind + " changed v" + a, x.getValue(a) != 50 + a, true);
            }
        }
    }

    private static void sameVariable() {
        DecentLabels x = Programs.started(Programs.set(0, 6), Programs.calc(DecentLabels.K_MUL, 0, 0, 0),
            Programs.move(0, 0), Programs.calc(DecentLabels.K_SUB, 0, 0, 0),
            Programs.calc(DecentLabels.K_EQUAL, 0, 0, 0), Programs.calc(DecentLabels.K_LESS, 0, 0, 0));
        int[] due = {6, 36, 36, 0, 1, 0};
        for (int value : due) {
            x.run(1);
            Due.is("v0", x.getValue(0), value);
        }
    }

    private static void pathIs(DecentLabels x, int... positions) {
        for (int i = 0; i < positions.length; i++) {
            boolean last = i == positions.length - 1;
            Due.is("step " + i, x.run(1), last ? HALTED : RUNNING);
            Due.is("position after step " + i, x.getValue(DecentLabels.SLOT_POSITION), positions[i]);
        }
    }

    private static int[][] choice(int condition) {
        return new int[][] {Programs.set(0, condition), Programs.when(0), Programs.set(1, 5), Programs.ELSE,
            Programs.set(1, 6), Programs.END, Programs.set(2, 6)};
    }

    private static int[][] option(int condition) {
        return new int[][] {Programs.set(0, condition), Programs.when(0), Programs.set(1, 5), Programs.END,
            Programs.set(2, 6)};
    }

    private static void ifTrue() {
        for (int condition : TRUE) {
            DecentLabels x = Programs.started(option(condition));
            pathIs(x, 1, 2, 3, 4, 5);
            Due.is("then-part", x.getValue(1), 5);
            x = Programs.started(choice(condition));
            pathIs(x, 1, 2, 3, 6, 7);
            Due.is("then-part", x.getValue(1), 5);
        }
        pathIs(Programs.started(Programs.set(0, 1), Programs.when(0), Programs.END), 1, 2, 3);
    }

    private static void ifFalse() {
        DecentLabels x = Programs.started(option(0));
        pathIs(x, 1, 4, 5);
        Due.is("no then-part", x.getValue(1), 0);
        x = Programs.started(choice(0));
        pathIs(x, 1, 4, 5, 6, 7);
        Due.is("else-part", x.getValue(1), 6);
        pathIs(Programs.started(Programs.when(0), Programs.END), 2);
        pathIs(Programs.started(Programs.when(0), Programs.ELSE, Programs.END), 2, 3);
    }

    private static void elseJumps() {
        int[] one = Programs.set(0, 1);
        pathIs(Programs.started(one, Programs.when(0), Programs.ELSE, Programs.END), 1, 2, 4);
        pathIs(Programs.started(one, Programs.when(0), Programs.ELSE, one, one, Programs.END, one), 1, 2, 6, 7);
        pathIs(Programs.started(one, Programs.when(0), Programs.ELSE, Programs.when(0), Programs.ELSE,
            Programs.END, Programs.END), 1, 2, 7);
    }

    private static void endJumps() {
        int[] minus = Programs.calc(DecentLabels.K_SUB, 0, 0, 1);
        DecentLabels x = Programs.started(Programs.set(0, 2), Programs.set(1, 1), Programs.loop(0), minus,
            Programs.END, Programs.set(2, 9));
        pathIs(x, 1, 2, 3, 4, 2, 3, 4, 2, 5, 6);
        pathIs(Programs.started(Programs.set(1, 1), Programs.when(1), Programs.END, Programs.set(2, 9)), 1, 2, 3, 4);
        // The WHILE at 0 is gone back to as well.
        x = new DecentLabels(2, 8);
        Programs.load(x, Programs.loop(0), Programs.set(0, 0), Programs.END);
        x.setInput(0, 4);
        x.check();
        x.start();
        pathIs(x, 1, 2, 0, 3);
    }

    private static void whileSteps() {
        pathIs(Programs.started(Programs.loop(0), Programs.END), 2);
        pathIs(Programs.started(Programs.loop(0), Programs.set(1, 1), Programs.END, Programs.set(2, 1)), 3, 4);
        for (int condition : TRUE) {
            pathIs(Programs.started(Programs.set(0, condition), Programs.loop(0), Programs.set(0, 0), Programs.END),
                1, 2, 3, 1, 4);
        }
    }

    private static void nestedBlocks() {
        // 3 rounds outside, and inside as many rounds as are left; the last of them goes to channel 1.
        DecentLabels x = Programs.started(Programs.set(0, 3), Programs.set(15, 1), Programs.loop(0),
            Programs.move(1, 0), Programs.loop(1),
            Programs.calc(DecentLabels.K_EQUAL, 2, 1, 15), Programs.when(2), Programs.out(1, 0),
            Programs.ELSE, Programs.out(2, 1), Programs.END,
            Programs.calc(DecentLabels.K_SUB, 1, 1, 15), Programs.END,
            Programs.calc(DecentLabels.K_SUB, 0, 0, 15), Programs.END, Programs.out(3, 15));
        Due.is("nested", x.run(1000), HALTED);
        int[][] due = {{}, {3, 2, 1}, {3, 2, 2}, {1}};
        for (int c = 0; c < 4; c++) {
            Programs.holds(x, c, due[c]);
        }
        // An inner ELSE is not the outer IF's.
        pathIs(Programs.started(Programs.when(0), Programs.when(0), Programs.ELSE, Programs.END, Programs.ELSE,
            Programs.set(1, 1), Programs.END), 5, 6, 7);
        pathIs(Programs.started(Programs.when(0), Programs.when(0), Programs.ELSE, Programs.END, Programs.END,
            Programs.set(1, 1)), 5, 6);
    }

    private static void deepBlocks() {
        for (int whiles = 0; whiles < 256; whiles += 15) {
            int[][] deep = new int[17][];
            for (int i = 0; i < 8; i++) {
                deep[i] = (whiles >> i & 1) == 1 ? Programs.loop(0) : Programs.when(0);
                deep[16 - i] = Programs.END;
            }
            deep[8] = Programs.set(0, 0);
            DecentLabels x = Programs.started(deep);
            Due.is("all skipped", x.run(1), HALTED);
            Due.is("all skipped", x.getValue(DecentLabels.SLOT_POSITION), 17);
            x.setInput(0, 1);
            x.start();
            // Every WHILE is asked once more when its END is reached.
            int steps = 17 + Integer.bitCount(whiles);
            Due.is("all entered", x.run(steps - 1), RUNNING);
            Due.is("all entered", x.run(1), HALTED);
            Due.is("the innermost was done", x.getValue(0), 0);
        }
    }

    private static void appends() {
        for (int c = 0; c < 4; c++) {
            DecentLabels x = Programs.started(Programs.set(0, MIN), Programs.out(c, 0), Programs.set(15, MAX),
                Programs.out(c, 15), Programs.out(c, 7), Programs.out(c, 0));
            x.run(100);
            for (int other = 0; other < 4; other++) {
                Programs.holds(x, other, other == c ? new int[] {MIN, MAX, 0, MIN} : new int[0]);
            }
        }
    }

    // Counts down from the number on each channel in turn, with one value on the channel after it.
    private static void fills(int number) {
        for (int c = 0; c < 4; c++) {
            int next = (c + 1) % 4;
            DecentLabels x = Programs.started(Programs.set(0, number), Programs.set(1, 1), Programs.loop(0),
                Programs.out(c, 0), Programs.calc(DecentLabels.K_SUB, 0, 0, 1), Programs.END, Programs.out(next, 1));
            Due.is("run(1000)", x.run(1000), HALTED);
            int[] due = new int[16];
            for (int i = 0; i < 16; i++) {
                due[i] = number - i;
            }
            for (int other = 0; other < 4; other++) {
                Programs.holds(x, other, other == c ? due : other == next ? new int[] {1} : new int[0]);
            }
        }
    }

    private static void fullIsAStep() {
        int[][] rows = new int[20][];
        for (int i = 0; i < 20; i++) {
            rows[i] = Programs.out(2, 0);
        }
        DecentLabels x = Programs.started(rows);
        for (int i = 1; i <= 20; i++) {
            Due.is("run(1)", x.run(1), i == 20 ? HALTED : RUNNING);
            Due.is("position", x.getValue(DecentLabels.SLOT_POSITION), i);
            Due.is("outCount(2)", x.outCount(2), i < 16 ? i : 16);
        }
    }
}
