/** Promise 13: start. */
public final class P13StartTest {
    public static void main(String[] args) {
        Due.test("refused if status is ST_UNCHECKED: never checked", () -> refused(Stage.NEW));
        Due.test("refused if status is ST_UNCHECKED: changed since the check", () -> refused(Stage.CHANGED));
        Due.test("refused if status is ST_UNCHECKED: the check failed", () -> refused(Stage.FAILED));
        Due.test("allowed from ST_READY", () -> starts(Stage.READY));
        Due.test("allowed from ST_RUNNING, where it starts over", () -> {
            starts(Stage.STARTED);
            starts(Stage.RUNNING);
        });
        Due.test("allowed from ST_HALTED, where it starts over", () -> starts(Stage.HALTED));
        Due.test("an empty program can be started", P13StartTest::emptyProgram);
        Due.test("x[v] := input v for all 16 variables", P13StartTest::loadsAll);
        Due.test("all channels are emptied, full ones too", P13StartTest::emptiesFullChannels);
        Due.test("position := 0, from every position", P13StartTest::startsOverFromAnywhere);
        Due.end("P13StartTest");
    }

    private static void refused(Stage stage) {
        DecentLabels x = stage.make();
        x.setInput(3, 33);
        Seen before = Seen.of(x);
        Due.is("start()", x.start(), false);
        Due.same("changed by start()", before.changedTo(Seen.of(x)), "");
        Due.is("run(1) after it", x.run(1), DecentLabels.ST_UNCHECKED);
    }

    private static void starts(Stage stage) {
        DecentLabels x = stage.make();
        Seen due = Seen.of(x).withoutOutput().with("value 34=0", "value 35=" + DecentLabels.ST_RUNNING);
        for (int v = 0; v < 16; v++) {
            due = due.with("value " + v + "=" + x.getValue(DecentLabels.SLOT_INPUT + v));
        }
        Due.is("start()", x.start(), true);
        Due.same("not as due after start()", due.changedTo(Seen.of(x)), "");
        Due.is("start() at once again", x.start(), true);
        Due.same("not as due after the second", due.changedTo(Seen.of(x)), "");
        Due.is("run(2)", x.run(2), DecentLabels.ST_RUNNING);
        Due.is("runs from the start", x.outValue(0, 0), 7);
        Due.is("runs from the start", x.outCount(0), 1);
    }

    private static void emptyProgram() {
        DecentLabels x = new DecentLabels(2, 8);
        x.check();
        Due.is("start()", x.start(), true);
        Due.is("status", x.getValue(DecentLabels.SLOT_STATUS), DecentLabels.ST_RUNNING);
        Due.is("start() again", x.start(), true);
        x.run(1);
        Due.is("start() when halted", x.start(), true);
        Due.is("status", x.getValue(DecentLabels.SLOT_STATUS), DecentLabels.ST_RUNNING);
    }

    private static void loadsAll() {
        DecentLabels x = new DecentLabels(2, 64);
        for (int v = 0; v < 16; v++) {
            x.setInput(v, 100 - 7 * v);
            x.addStmt(DecentLabels.K_SET, v, -v, 0);
        }
        x.check();
        for (int time = 0; time < 3; time++) {
            Due.is("start()", x.start(), true);
            for (int v = 0; v < 16; v++) {
                Due.is("variable " + v, x.getValue(v), 100 - 7 * v);
                Due.is("input " + v, x.getValue(16 + v), 100 - 7 * v);
            }
            x.run(100);
            Due.is("set by the run", x.getValue(15), -15);
        }
    }

    private static void emptiesFullChannels() {
        DecentLabels x = Programs.started(Programs.set(0, 1), Programs.loop(0), Programs.out(0, 0),
            Programs.out(1, 0), Programs.out(2, 0), Programs.out(3, 0), Programs.END);
        x.run(200);
        for (int c = 0; c < 4; c++) {
            Due.is("full, outCount(" + c + ")", x.outCount(c), 16);
        }
        Due.is("start()", x.start(), true);
        for (int c = 0; c < 4; c++) {
            Due.is("outCount(" + c + ")", x.outCount(c), 0);
            for (int i = 0; i < 16; i++) {
                Due.is("outValue(" + c + ", " + i + ")", x.outValue(c, i), 0);
            }
        }
        x.run(3);
        Due.is("filled anew", x.outCount(0), 1);
        Due.is("filled anew", x.outCount(1), 0);
    }

    private static void startsOverFromAnywhere() {
        int[][] rows = new int[64][];
        for (int i = 0; i < 64; i++) {
            rows[i] = Programs.set(0, i);
        }
        DecentLabels x = Programs.started(rows);
        for (int steps = 1; steps <= 64; steps++) {
            x.run(steps);
            Due.is("position", x.getValue(DecentLabels.SLOT_POSITION), steps);
            Due.is("start()", x.start(), true);
            Due.is("position after it", x.getValue(DecentLabels.SLOT_POSITION), 0);
            Due.is("status after it", x.getValue(DecentLabels.SLOT_STATUS), DecentLabels.ST_RUNNING);
        }
    }
}
