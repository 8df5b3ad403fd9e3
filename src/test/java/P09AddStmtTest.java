/** Promise 9: addStmt. */
public final class P09AddStmtTest {
    private static final int[] WRONG_VARIABLES = {-1, 16, 19, Integer.MIN_VALUE, Integer.MAX_VALUE};
    private static final int[] WRONG_CHANNELS = {-1, 4, 15, 16, Integer.MIN_VALUE, Integer.MAX_VALUE};
    private static final int[] ANYTHING = {-1, 99, Integer.MIN_VALUE, Integer.MAX_VALUE};

    public static void main(String[] args) {
        wrongKinds(Samples.busy());
        wrongKinds(Samples.halted());
        fullProgram();
        // For each kind: how many operands it has.
        int[] operands = {0, 2, 2, 3, 3, 3, 3, 3, 1, 0, 0, 1, 2, 2};
        for (int kind = 1; kind <= 13; kind++) {
            operandsOf(kind, operands[kind]);
        }
        storesAndResets();
        structureIsNotLookedAt();
        Due.end("P09AddStmtTest");
    }

    private static void wrongKinds(DecentLabels x) {
        Seen before = Seen.of(x);
        int[] wrong = {0, -1, 14, 15, 256, Integer.MIN_VALUE, Integer.MAX_VALUE};
        for (int kind : wrong) {
            Samples.refused("kind " + kind, x, before, x.addStmt(kind, 1, 1, 1), -1);
        }
    }

    private static void fullProgram() {
        DecentLabels x = Samples.busy();
        Due.is("ninth", x.addStmt(DecentLabels.K_SET, 0, 0, 0), 8);
        Due.is("tenth", x.addStmt(DecentLabels.K_SET, 0, 0, 0), 9);
        x.check();
        x.start();
        x.run(3);
        Seen before = Seen.of(x);
        for (int kind = 1; kind <= 13; kind++) {
            Samples.refused("kind " + kind + ", full", x, before, x.addStmt(kind, 1, 1, 1), -1);
        }
    }

    private static void operandsOf(int kind, int count) {
        for (int operand = 0; operand < 3; operand++) {
            int[] wrong = operand == 0 && kind == DecentLabels.K_OUT ? WRONG_CHANNELS : WRONG_VARIABLES;
            boolean constant = operand == 1 && kind == DecentLabels.K_SET;
            if (operand >= count || constant) {
                anyValueIsTaken(kind, operand, constant);
            } else {
                wrongOnesAreRefused(kind, operand, wrong);
                edgesAreTaken(kind, operand, wrong == WRONG_CHANNELS ? 3 : 15);
            }
        }
    }

    private static int add(DecentLabels x, int kind, int operand, int value) {
        return x.addStmt(kind, operand == 0 ? value : 2, operand == 1 ? value : 2, operand == 2 ? value : 2);
    }

    private static void anyValueIsTaken(int kind, int operand, boolean stored) {
        for (int value : ANYTHING) {
            String call = "kind " + kind + ", operand " + operand + ", " + value;
            DecentLabels x = new DecentLabels(2, 8);
            Due.is(call, add(x, kind, operand, value), 0);
            Due.is(call + ", stored", x.getStmt(0, operand + 1), stored ? value : 0);
        }
    }

    private static void wrongOnesAreRefused(int kind, int operand, int[] wrong) {
        DecentLabels x = Samples.busy();
        Seen before = Seen.of(x);
        for (int value : wrong) {
            String call = "kind " + kind + ", operand " + operand + ", " + value;
            Samples.refused(call, x, before, add(x, kind, operand, value), -1);
        }
    }

    private static void edgesAreTaken(int kind, int operand, int last) {
        DecentLabels x = new DecentLabels(2, 8);
        String call = "kind " + kind + ", operand " + operand;
        Due.is(call + ", 0", add(x, kind, operand, 0), 0);
        Due.is(call + ", 0 stored", x.getStmt(0, operand + 1), 0);
        Due.is(call + ", last", add(x, kind, operand, last), 1);
        Due.is(call + ", last stored", x.getStmt(1, operand + 1), last);
    }

    private static void storesAndResets() {
        DecentLabels x = Samples.busy();
        Seen before = Seen.of(x);
        Due.is("addStmt", x.addStmt(DecentLabels.K_SUB, 3, 4, 5), 8);
        Due.same("addStmt", before.changedTo(Seen.of(x)),
            "out 0 0=0, out 0 1=0, out 3 0=0, outCount 0=0, outCount 3=0, "
            + "stmt 8 0=4, stmt 8 1=3, stmt 8 2=4, stmt 8 3=5, "
            + "value 33=9, value 34=0, value 35=0, value 36=-1");
    }

    private static void structureIsNotLookedAt() {
        DecentLabels x = new DecentLabels(2, 64);
        int[] kinds = {DecentLabels.K_END, DecentLabels.K_ELSE, DecentLabels.K_ELSE, DecentLabels.K_WHILE,
            DecentLabels.K_ELSE, DecentLabels.K_IF, DecentLabels.K_ELSE, DecentLabels.K_ELSE};
        for (int i = 0; i < kinds.length; i++) {
            Due.is("badly nested", x.addStmt(kinds[i], 0, 0, 0), i);
        }
        for (int i = 8; i < 64; i++) {
            Due.is("too deep", x.addStmt(DecentLabels.K_IF, 0, 0, 0), i);
        }
    }
}
