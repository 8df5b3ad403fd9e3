/** Promise 10: clearProgram. */
public final class P10ClearProgramTest {
    public static void main(String[] args) {
        Due.test("length := 0 and then RESET; hierarchy, labels, authority, inputs and variables are kept",
            P10ClearProgramTest::clearsAndResets);
        Due.test("never refused: an empty program", P10ClearProgramTest::emptyProgram);
        Due.test("never refused: a full program", P10ClearProgramTest::fullProgram);
        Due.test("an empty program follows: it passes, and halts at once", P10ClearProgramTest::runsAsEmpty);
        Due.test("the old statements do not come back", P10ClearProgramTest::oldOnesAreGone);
        Due.end("P10ClearProgramTest");
    }

    private static void clears(String what, DecentLabels x) {
        Seen due = Seen.of(x).reset().withoutProgram();
        x.clearProgram();
        Due.same("not as due after clearProgram, " + what, due.changedTo(Seen.of(x)), "");
        Due.is("start() after it, " + what, x.start(), false);
    }

    private static void clearsAndResets() {
        for (Stage stage : Stage.values()) {
            clears("when " + stage, stage.make());
        }
    }

    private static void emptyProgram() {
        DecentLabels x = Stage.RUNNING.make();
        x.clearProgram();
        clears("twice", x);
        Due.is("check()", x.check(), 0);
        clears("checked", x);
        x.check();
        x.start();
        clears("started", x);
        x.check();
        x.start();
        x.run(1);
        clears("halted", x);
    }

    private static void fullProgram() {
        for (int capacity = 8; capacity <= 64; capacity++) {
            DecentLabels x = new DecentLabels(2, capacity);
            for (int i = 0; i < capacity; i++) {
                x.addStmt(DecentLabels.K_ADD, 1, 2, 3);
            }
            clears("full", x);
            for (int i = 0; i < capacity; i++) {
                Due.is("room again", x.addStmt(DecentLabels.K_ELSE, 0, 0, 0), i);
            }
            Due.is("and no more", x.addStmt(DecentLabels.K_ELSE, 0, 0, 0), -1);
        }
    }

    private static void runsAsEmpty() {
        DecentLabels x = Stage.RUNNING.make();
        x.clearProgram();
        Due.is("check()", x.check(), 0);
        Due.is("start()", x.start(), true);
        Due.is("run(1)", x.run(1), DecentLabels.ST_HALTED);
        Due.is("outCount(0)", x.outCount(0), 0);
    }

    private static void oldOnesAreGone() {
        DecentLabels x = new DecentLabels(2, 8);
        Programs.load(x, Programs.calc(DecentLabels.K_ADD, 1, 2, 3), Programs.when(4), Programs.END);
        Programs.load(x, Programs.END, Programs.ELSE);
        for (int field = 1; field < 4; field++) {
            Due.is("operand of the new END", x.getStmt(0, field), 0);
            Due.is("operand of the new ELSE", x.getStmt(1, field), 0);
        }
        Due.is("behind the new ones", x.getStmt(2, 0), -1);
        Programs.load(x, Programs.when(0), Programs.set(1, 1), Programs.END);
        x.check();
        // The blocks of the program before must not steer this one.
        Programs.load(x, Programs.loop(0), Programs.END, Programs.set(1, 7));
        x.check();
        x.start();
        Due.is("run(1)", x.run(1), DecentLabels.ST_RUNNING);
        Due.is("position", x.getValue(DecentLabels.SLOT_POSITION), 2);
    }
}
