/**
 * The states an object can be in when a call comes. All but NEW have five principals (0 acts for 1
 * acts for 2), labels, an authority, inputs, variables from a run, and a program of 8 statements in a
 * capacity of 10. The input of v15 is another number than its value.
 */
enum Stage {
    NEW, CHANGED, FAILED, READY, STARTED, RUNNING, HALTED;

    DecentLabels make() {
        DecentLabels x = new DecentLabels(5, 10);
        if (this == NEW) {
            return x;
        }
        label(x);
        write(x);
        x.setInput(2, -20);
        x.setInput(5, 50);
        x.setInput(15, 150);
        x.check();
        x.start();
        x.run(100);
        bring(x);
        x.setInput(15, 151);
        return x;
    }

    private static void label(DecentLabels x) {
        x.setActsFor(0, 1, true);
        x.setActsFor(1, 2, true);
        x.setPolicy(5, 2, 8);
        x.setPolicy(5, 3, 0);
        x.setPolicy(18, 2, 31);
        x.setAuthority(9);
    }

    private static void write(DecentLabels x) {
        x.addStmt(DecentLabels.K_SET, 1, 7, 0);
        x.addStmt(DecentLabels.K_OUT, 0, 1, 0);
        x.addStmt(DecentLabels.K_OUT, 0, 2, 0);
        x.addStmt(DecentLabels.K_OUT, 3, 2, 0);
        x.addStmt(DecentLabels.K_DECLASSIFY, 4, 5, 0);
        x.addStmt(DecentLabels.K_IF, 2, 0, 0);
        x.addStmt(DecentLabels.K_SET, 3, -1, 0);
        x.addStmt(DecentLabels.K_END, 0, 0, 0);
    }

    // From the halted program to this stage.
    private void bring(DecentLabels x) {
        switch (this) {
            case CHANGED -> x.setAuthority(9);
            case FAILED -> {
                // Without principal 3 the DECLASSIFY has not the authority it needs.
                x.setAuthority(1);
                x.check();
            }
            case READY -> x.check();
            case STARTED -> x.start();
            case RUNNING -> {
                x.start();
                x.run(5);
            }
            default -> {
            }
        }
    }
}
