/** Promise 14: how far a call of run goes, what it answers and what it leaves. */
public final class P14RunTest {
    private static final int RUNNING = DecentLabels.ST_RUNNING;
    private static final int HALTED = DecentLabels.ST_HALTED;
    private static final int[] END = Programs.END;

    public static void main(String[] args) {
        Due.test("steps: below 1 becomes 1", P14RunTest::tooFewSteps);
        Due.test("steps: above 1000 becomes 1000", P14RunTest::tooManySteps);
        Due.test("steps is taken as it is in [1,1000]", P14RunTest::stepsInRange);
        Due.test("if status is not ST_RUNNING, nothing happens, and it is the answer", P14RunTest::notRunning);
        Due.test("an empty program halts on the first call", P14RunTest::emptyProgram);
        Due.test("the last allowed step that reaches the end also halts", P14RunTest::lastStepHalts);
        Due.test("a step less than the end does not halt", P14RunTest::oneStepLess);
        Due.test("a jump to the end halts too", P14RunTest::jumpToTheEnd);
        Due.test("exactly 1000 steps halt in one call; 1001 take two", P14RunTest::aThousandSteps);
        Due.test("slices of any size lead to the same end", P14RunTest::slices);
        Due.test("a loop without end goes on for ever", P14RunTest::endless);
        Due.test("inputs, labels, hierarchy, authority, program and last check are not changed",
            P14RunTest::keepsTheRest);
        Due.end("P14RunTest");
    }

    // v0 counts the rounds; a round is four steps, and two come before the first.
    private static DecentLabels counter() {
        return Programs.started(Programs.set(1, 1), Programs.set(2, 1), Programs.loop(1),
            Programs.calc(DecentLabels.K_ADD, 0, 0, 2), Programs.set(3, 3), END);
    }

    private static void hasDone(DecentLabels x, int steps) {
        int inRound = (steps - 2) % 4;
        int position = steps < 2 ? steps : 2 + inRound;
        int rounds = steps < 2 ? 0 : (steps - 2) / 4 + (inRound >= 2 ? 1 : 0);
        Due.is("position after " + steps + " steps", x.getValue(DecentLabels.SLOT_POSITION), position);
        Due.is("rounds after " + steps + " steps", x.getValue(0), rounds);
    }

    private static void tooFewSteps() {
        DecentLabels x = counter();
        int done = 0;
        for (int steps : Wrong.below(1).toArray()) {
            Due.is("run(" + steps + ")", x.run(steps), RUNNING);
            done++;
            hasDone(x, done);
        }
    }

    private static void tooManySteps() {
        for (int steps : Wrong.from(1001).toArray()) {
            DecentLabels x = counter();
            Due.is("run(" + steps + ")", x.run(steps), RUNNING);
            hasDone(x, 1000);
            Due.is("run(" + steps + ") again", x.run(steps), RUNNING);
            hasDone(x, 2000);
        }
    }

    private static void stepsInRange() {
        for (int steps = 1; steps <= 1000; steps++) {
            DecentLabels x = counter();
            Due.is("run(" + steps + ")", x.run(steps), RUNNING);
            hasDone(x, steps);
        }
    }

    private static void notRunning() {
        Stage[] stages = {Stage.NEW, Stage.CHANGED, Stage.FAILED, Stage.READY, Stage.HALTED};
        int[] any = {1, 0, -1, 5, 1000, 1001, Integer.MIN_VALUE, Integer.MAX_VALUE};
        for (Stage stage : stages) {
            for (int steps : any) {
                DecentLabels x = stage.make();
                Seen before = Seen.of(x);
                int status = x.getValue(DecentLabels.SLOT_STATUS);
                Due.is("run(" + steps + ") when " + stage, x.run(steps), status);
                Due.same("changed by it", before.changedTo(Seen.of(x)), "");
            }
        }
        Due.is("unchecked", Stage.FAILED.make().run(1), DecentLabels.ST_UNCHECKED);
        Due.is("ready", Stage.READY.make().run(1), DecentLabels.ST_READY);
        Due.is("halted", Stage.HALTED.make().run(1), HALTED);
    }

    private static void emptyProgram() {
        int[] any = {1, 0, -1, 1000, 1001, Integer.MIN_VALUE, Integer.MAX_VALUE};
        for (int steps : any) {
            DecentLabels x = Programs.started();
            Due.is("not before it", x.getValue(DecentLabels.SLOT_STATUS), RUNNING);
            Seen before = Seen.of(x);
            Due.is("run(" + steps + ")", x.run(steps), HALTED);
            Due.same("changed by it", before.changedTo(Seen.of(x)), "value 35=" + HALTED);
        }
    }

    private static int[][] sets(int count) {
        int[][] rows = new int[count][];
        for (int i = 0; i < count; i++) {
            rows[i] = Programs.set(0, i + 1);
        }
        return rows;
    }

    private static void lastStepHalts() {
        for (int length = 1; length <= 64; length++) {
            DecentLabels x = Programs.started(sets(length));
            Due.is("run(length)", x.run(length), HALTED);
            Due.is("position", x.getValue(DecentLabels.SLOT_POSITION), length);
            Due.is("the last one was done", x.getValue(0), length);
            Due.is("status", x.getValue(DecentLabels.SLOT_STATUS), HALTED);
        }
    }

    private static void oneStepLess() {
        for (int length = 2; length <= 64; length++) {
            DecentLabels x = Programs.started(sets(length));
            Due.is("run(length-1)", x.run(length - 1), RUNNING);
            Due.is("position", x.getValue(DecentLabels.SLOT_POSITION), length - 1);
            Due.is("the last one was not done", x.getValue(0), length - 1);
            Due.is("run(1)", x.run(1), HALTED);
            Due.is("it was done", x.getValue(0), length);
        }
    }

    private static void jumpToTheEnd() {
        DecentLabels x = Programs.started(Programs.loop(0), END);
        Due.is("past a WHILE", x.run(1), HALTED);
        Due.is("position", x.getValue(DecentLabels.SLOT_POSITION), 2);
        x = Programs.started(Programs.when(0), END);
        Due.is("past an IF", x.run(1), HALTED);
        Due.is("position", x.getValue(DecentLabels.SLOT_POSITION), 2);
        x = Programs.started(Programs.set(0, 1), Programs.when(0), Programs.ELSE, END);
        Due.is("past an ELSE", x.run(3), HALTED);
        Due.is("position", x.getValue(DecentLabels.SLOT_POSITION), 4);
    }

    // The loop takes 3 steps a round and one to end; before and after it come SETs.
    private static DecentLabels lasting(int rounds, int before, int after) {
        int[][] rows = new int[before + 3 + after][];
        rows[0] = Programs.set(0, rounds);
        rows[1] = Programs.set(1, 1);
        for (int i = 2; i < rows.length; i++) {
            rows[i] = Programs.set(2, i);
        }
        rows[before] = Programs.loop(0);
        rows[before + 1] = Programs.calc(DecentLabels.K_SUB, 0, 0, 1);
        rows[before + 2] = END;
        return Programs.started(rows);
    }

    private static void aThousandSteps() {
        Due.is("999 steps, run(1000)", lasting(330, 3, 5).run(1000), HALTED);
        Due.is("1000 steps, run(999)", lasting(330, 4, 5).run(999), RUNNING);
        Due.is("1000 steps, run(1000)", lasting(330, 4, 5).run(1000), HALTED);
        Due.is("1000 steps, run(MAX)", lasting(330, 4, 5).run(Integer.MAX_VALUE), HALTED);
        Due.is("1001 steps, run(1000)", lasting(330, 4, 6).run(1000), RUNNING);
        Due.is("1001 steps, run(1001)", lasting(330, 4, 6).run(1001), RUNNING);
        DecentLabels x = lasting(330, 4, 6);
        Due.is("1001 steps, run(MAX)", x.run(Integer.MAX_VALUE), RUNNING);
        Due.is("position", x.getValue(DecentLabels.SLOT_POSITION), 12);
        Due.is("and run(0)", x.run(0), HALTED);
    }

    private static DecentLabels countdown() {
        return Programs.started(Programs.set(0, 5), Programs.set(1, 1), Programs.loop(0),
            Programs.out(0, 0), Programs.calc(DecentLabels.K_SUB, 0, 0, 1), END);
    }

    private static void slices() {
        DecentLabels whole = countdown();
        whole.run(1000);
        for (int slice = 1; slice < 30; slice++) {
            DecentLabels x = countdown();
            int calls = 0;
            while (x.run(slice) == RUNNING && calls < 100) {
                calls++;
            }
            Due.same("slices of " + slice, Seen.of(whole).changedTo(Seen.of(x)), "");
            // 2 steps before the loop, 5 rounds of 4, and the WHILE that ends it.
            Due.is("calls with slices of " + slice, calls + 1, (23 + slice - 1) / slice);
        }
    }

    private static void endless() {
        DecentLabels x = Programs.started(Programs.set(0, -1), Programs.loop(0), END);
        for (int call = 0; call < 50; call++) {
            Due.is("run(1000)", x.run(1000), RUNNING);
            Due.is("position", x.getValue(DecentLabels.SLOT_POSITION), 2);
        }
    }

    private static void keepsTheRest() {
        DecentLabels x = Stage.RUNNING.make();
        Seen before = Seen.of(x);
        Due.is("run(2)", x.run(2), RUNNING);
        Due.same("run(2)", before.changedTo(Seen.of(x)), "value 3=-1, value 34=7");
        before = Seen.of(x);
        Due.is("run(2)", x.run(2), HALTED);
        Due.same("run(2)", before.changedTo(Seen.of(x)), "value 34=8, value 35=3");
        x = Stage.STARTED.make();
        before = Seen.of(x);
        Due.is("run(1000)", x.run(1000), HALTED);
        Due.same("run(1000)", before.changedTo(Seen.of(x)), "out 0 0=7, out 0 1=1002, out 3 0=1002, "
            + "outCount 0=2, outCount 3=1, value 1=7, value 3=-1, value 34=8, value 35=3, value 4=1005");
    }
}
