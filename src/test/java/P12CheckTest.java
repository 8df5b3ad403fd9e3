/** Promise 12: what check answers, stores and leaves. */
public final class P12CheckTest {
    private static final int STRUCTURE = DecentLabels.ERR_STRUCTURE;
    private static final int DEPTH = DecentLabels.ERR_DEPTH;
    private static final int FLOW = DecentLabels.ERR_FLOW;
    private static final int AUTHORITY = DecentLabels.ERR_AUTHORITY;
    private static final int UNCLOSED = DecentLabels.ERR_UNCLOSED;
    private static final int[] SET = Programs.set(1, 1);

    public static void main(String[] args) {
        Due.test("kind*256 + i, from the first index to the last", P12CheckTest::everyIndex);
        Due.test("the first failing statement gives the answer", P12CheckTest::firstFailureCounts);
        Due.test("a failing statement comes before open blocks", P12CheckTest::failureBeforeUnclosed);
        Due.test("on 0: RESET, ST_READY, the answer stored, nothing else", P12CheckTest::passes);
        Due.test("on another answer: RESET, ST_UNCHECKED, the answer stored, nothing else", P12CheckTest::fails);
        Due.test("check again: the same answer and the same state", P12CheckTest::again);
        Due.test("an accepted program that is changed and fails is not accepted", P12CheckTest::readyNoMore);
        Due.test("a failed check keeps the program from starting and running", P12CheckTest::failedDoesNotRun);
        Due.end("P12CheckTest");
    }

    // v0 is owner 0's secret and all others are public; authority is 0.
    private static DecentLabels secret() {
        DecentLabels x = new DecentLabels(2, 64);
        x.setPolicy(0, 0, 0);
        return x;
    }

    private static void everyIndex() {
        DecentLabels x = secret();
        for (int i = 0; i < 64; i++) {
            failsAt(x, STRUCTURE, i, Programs.END);
            failsAt(x, STRUCTURE, i, Programs.ELSE);
            failsAt(x, FLOW, i, Programs.move(1, 0));
            failsAt(x, AUTHORITY, i, Programs.declassify(1, 0));
            if (i >= 8) {
                tooDeepAt(x, i);
            }
        }
    }

    // A full program of statements that pass, but for the one at the index.
    private static void failsAt(DecentLabels x, int error, int index, int[] statement) {
        int[][] rows = new int[64][];
        for (int i = 0; i < 64; i++) {
            rows[i] = i == index ? statement : SET;
        }
        Programs.checks("error " + error + " at " + index, x, error, index, rows);
        int[][] last = new int[index + 1][];
        System.arraycopy(rows, 0, last, 0, index + 1);
        Programs.checks("error " + error + " at the end, " + index, x, error, index, last);
    }

    private static void tooDeepAt(DecentLabels x, int index) {
        int[][] rows = new int[64][];
        for (int i = 0; i < 64; i++) {
            rows[i] = i < index - 8 || i > index ? SET : Programs.when(1);
        }
        Programs.checks("too deep at " + index, x, DEPTH, index, rows);
    }

    private static void firstFailureCounts() {
        DecentLabels x = secret();
        int[] flow = Programs.move(1, 0);
        int[] authority = Programs.declassify(1, 0);
        Programs.checks("flow, structure", x, FLOW, 1, SET, flow, Programs.END);
        Programs.checks("structure, flow", x, STRUCTURE, 0, Programs.END, flow);
        Programs.checks("authority, flow", x, AUTHORITY, 0, authority, flow);
        Programs.checks("flow, authority", x, FLOW, 0, flow, authority);
        Programs.checks("flow, flow", x, FLOW, 1, SET, flow, flow, flow);
        int[][] rows = new int[12][];
        for (int i = 0; i < 9; i++) {
            rows[i] = Programs.when(1);
        }
        rows[9] = flow;
        rows[10] = authority;
        rows[11] = Programs.END;
        Programs.checks("depth, flow, authority", x, DEPTH, 8, rows);
        rows[3] = flow;
        Programs.checks("flow, and no depth", x, FLOW, 3, rows);
    }

    private static void failureBeforeUnclosed() {
        DecentLabels x = secret();
        int[] open = Programs.when(1);
        Programs.checks("flow", x, FLOW, 1, open, Programs.move(1, 0));
        Programs.checks("authority", x, AUTHORITY, 1, open, Programs.declassify(1, 0));
        Programs.checks("structure", x, STRUCTURE, 2, open, Programs.ELSE, Programs.ELSE);
        Programs.checks("unclosed alone", x, UNCLOSED, 2, open, SET);
    }

    // All stages but FAILED have an authority that the program, if there is one, passes with.
    private static void passes() {
        for (Stage stage : Stage.values()) {
            if (stage != Stage.FAILED) {
                leaves(stage, stage.make(), 0);
            }
        }
    }

    private static void leaves(Stage stage, DecentLabels x, int answer) {
        int status = answer == 0 ? DecentLabels.ST_READY : DecentLabels.ST_UNCHECKED;
        Seen due = Seen.of(x).reset().with("value 35=" + status, "value 36=" + answer);
        Due.is("check() when " + stage, x.check(), answer);
        Due.same("not as due after check() when " + stage, due.changedTo(Seen.of(x)), "");
    }

    // Only FAILED can fail without a RESET before; the others are changed first.
    private static void fails() {
        leaves(Stage.FAILED, Stage.FAILED.make(), AUTHORITY * 256 + 4);
        for (Stage stage : Stage.values()) {
            if (stage == Stage.NEW) {
                continue;
            }
            DecentLabels x = stage.make();
            x.setPolicy(1, 0, 0);
            leaves(stage, x, FLOW * 256 + 1);
            x.addStmt(DecentLabels.K_WHILE, 0, 0, 0);
            leaves(stage, x, FLOW * 256 + 1);
            x.setPolicy(1, 0, -1);
            x.setAuthority(31);
            leaves(stage, x, UNCLOSED * 256 + 9);
        }
    }

    private static void again() {
        for (Stage stage : Stage.values()) {
            DecentLabels x = stage.make();
            int answer = x.check();
            Seen before = Seen.of(x);
            Due.is("check() again when " + stage, x.check(), answer);
            Due.same("changed by the second when " + stage, before.changedTo(Seen.of(x)), "");
        }
    }

    private static void readyNoMore() {
        DecentLabels x = Stage.READY.make();
        x.addStmt(DecentLabels.K_END, 0, 0, 0);
        Due.is("check()", x.check(), STRUCTURE * 256 + 8);
        Due.is("status", x.getValue(DecentLabels.SLOT_STATUS), DecentLabels.ST_UNCHECKED);
        Due.is("last check", x.getValue(DecentLabels.SLOT_CHECK), STRUCTURE * 256 + 8);
        x.clearProgram();
        Due.is("last check, changed", x.getValue(DecentLabels.SLOT_CHECK), -1);
        Due.is("check(), emptied", x.check(), 0);
        Due.is("status, emptied", x.getValue(DecentLabels.SLOT_STATUS), DecentLabels.ST_READY);
    }

    private static void failedDoesNotRun() {
        DecentLabels x = Stage.FAILED.make();
        Seen before = Seen.of(x);
        Due.is("start()", x.start(), false);
        Due.is("run(1)", x.run(1), DecentLabels.ST_UNCHECKED);
        Due.same("changed by start and run", before.changedTo(Seen.of(x)), "");
    }
}
