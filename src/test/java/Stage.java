/**
 * The states an object can be in when a call comes. All have five principals and a capacity of 10. All but
 * NEW have edges (0 acts for 1 acts for 2), labels, an authority, a program of 8 statements, and variables
 * and inputs that are all different and not 0.
 */
enum Stage {
    NEW, CHANGED, FAILED, READY, STARTED, RUNNING, HALTED;

    DecentLabels make() {
        DecentLabels x = new DecentLabels(5, 10);
        if (this == NEW) {
            return x;
        }
        label(x);
        write(x);
        setInputs(x, 1000);
        x.check();
        x.start();
        x.run(100);
        bring(x);
        setInputs(x, 2000);
        return x;
    }

    private static void setInputs(DecentLabels x, int first) {
        for (int v = 0; v < 16; v++) {
            x.setInput(v, first + v);
        }
    }

    private static void label(DecentLabels x) {
        x.setActsFor(0, 1, true);
        x.setActsFor(1, 2, true);
        x.setPolicy(5, 2, 8);
        x.setPolicy(5, 3, 0);
        // The program does not use these targets; with all as readers they hide no change of v5's readers.
        for (int target = 6; target < 15; target++) {
            x.setPolicy(target, target % 5, 31);
        }
        x.setPolicy(17, 4, 31);
        x.setPolicy(18, 2, 31);
        x.setAuthority(9);
    }

    private static void write(DecentLabels x) {
        x.addStmt(DecentLabels.K_SET, 1, 7, 0);
        x.addStmt(DecentLabels.K_OUT, 0, 1, 0);
        x.addStmt(DecentLabels.K_OUT, 0, 2, 0);
        x.addStmt(DecentLabels.K_OUT, 3, 2, 0);
        x.addStmt(DecentLabels.K_DECLASSIFY, 4, 5, 0);
        x.addStmt(DecentLabels.K_IF, 2, 0, 0);
        x.addStmt(DecentLabels.K_SET, 3, -1, 0);
        x.addStmt(DecentLabels.K_END, 0, 0, 0);
    }

    // From the halted program to this stage.
    private void bring(DecentLabels x) {
        switch (this) {
            case CHANGED -> x.setAuthority(9);
            case FAILED -> {
                // Without principal 3 the DECLASSIFY has not the authority it needs.
                x.setAuthority(1);
                x.check();
            }
            case READY -> x.check();
            case STARTED -> x.start();
            case RUNNING -> {
                x.start();
                x.run(5);
            }
            default -> {
            }
        }
    }
}
