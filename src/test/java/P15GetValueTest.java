/** Promise 15: getValue. */
public final class P15GetValueTest {
    public static void main(String[] args) {
        Due.test("a negative slot: 0", () -> Wrong.below(0).forEach(P15GetValueTest::isZero));
        Due.test("a slot from 37 on: 0", () -> Wrong.from(37).forEach(P15GetValueTest::isZero));
        Due.test("slots 0..15: x[slot]; slots 16..31: the inputs", P15GetValueTest::variablesAndInputs);
        Due.test("slots 32..36, each its own", P15GetValueTest::others);
        Due.test("SLOT_LENGTH: from 0 to 64", P15GetValueTest::lengths);
        Due.test("SLOT_POSITION: from 0 to length", P15GetValueTest::positions);
        Due.test("SLOT_STATUS: all four", P15GetValueTest::statuses);
        Due.test("SLOT_CHECK: -1, 0 and an error", P15GetValueTest::checks);
        Due.test("it changes nothing", P15GetValueTest::changesNothing);
        Due.end("P15GetValueTest");
    }

    private static void isZero(int slot) {
        Calls.refused("getValue(" + slot + ")", 0, x -> x.getValue(slot));
    }

    private static void variablesAndInputs() {
        DecentLabels x = new DecentLabels(2, 8);
        for (int v = 0; v < 16; v++) {
            x.setInput(v, -300 - v);
        }
        x.check();
        x.start();
        for (int v = 0; v < 16; v++) {
            x.setInput(v, 500 + v);
        }
        for (int v = 0; v < 16; v++) {
            Due.is("variable " + v, x.getValue(v), -300 - v);
            Due.is("input " + v, x.getValue(DecentLabels.SLOT_INPUT + v), 500 + v);
        }
    }

    private static void others() {
        DecentLabels x = Stage.RUNNING.make();
        Due.is("authority", x.getValue(32), 9);
        Due.is("length", x.getValue(33), 8);
        Due.is("position", x.getValue(34), 5);
        Due.is("status", x.getValue(35), 2);
        Due.is("last check", x.getValue(36), 0);
    }

    private static void lengths() {
        DecentLabels x = new DecentLabels(2, 64);
        for (int length = 0; length <= 64; length++) {
            Due.is("length", x.getValue(DecentLabels.SLOT_LENGTH), length);
            x.addStmt(DecentLabels.K_SET, 0, 0, 0);
        }
        Due.is("a refused one does not count", x.getValue(DecentLabels.SLOT_LENGTH), 64);
        x.clearProgram();
        Due.is("cleared", x.getValue(DecentLabels.SLOT_LENGTH), 0);
    }

    private static void positions() {
        int[][] rows = new int[64][];
        for (int i = 0; i < 64; i++) {
            rows[i] = Programs.set(0, i);
        }
        DecentLabels x = Programs.started(rows);
        for (int position = 0; position < 64; position++) {
            Due.is("position", x.getValue(DecentLabels.SLOT_POSITION), position);
            x.run(1);
        }
        Due.is("at the end", x.getValue(DecentLabels.SLOT_POSITION), 64);
        x.run(1);
        Due.is("and it stays", x.getValue(DecentLabels.SLOT_POSITION), 64);
        x.addStmt(0, 0, 0, 0);
        Due.is("a refused call leaves it", x.getValue(DecentLabels.SLOT_POSITION), 64);
        x.check();
        Due.is("after a check", x.getValue(DecentLabels.SLOT_POSITION), 0);
    }

    private static void statuses() {
        int[] due = {0, 0, 0, 1, 2, 2, 3};
        for (Stage stage : Stage.values()) {
            Due.is("status when " + stage, stage.make().getValue(DecentLabels.SLOT_STATUS), due[stage.ordinal()]);
        }
    }

    private static void checks() {
        int[] due = {-1, -1, DecentLabels.ERR_AUTHORITY * 256 + 4, 0, 0, 0, 0};
        for (Stage stage : Stage.values()) {
            Due.is("last check when " + stage, stage.make().getValue(DecentLabels.SLOT_CHECK), due[stage.ordinal()]);
        }
    }

    private static void changesNothing() {
        for (int slot = -1; slot <= 37; slot++) {
            int asked = slot;
            Calls.changesNothing("getValue(" + slot + ")", x -> x.getValue(asked));
        }
    }
}
