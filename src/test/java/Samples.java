/** Objects in states that leave something to be lost. */
final class Samples {
    /** What RESET changes in an object made by busy(), with the names that Seen gives. */
    static final String RESET_OF_BUSY =
        "out 0 0=0, out 0 1=0, out 3 0=0, outCount 0=0, outCount 3=0, "
        + "value 34=0, value 35=0, value 36=-1";

    private Samples() {
    }

    /**
     * Five principals, 0 acts for 1 acts for 2, labels, authority 9, inputs, and a program of 8
     * statements (capacity 10) that is running at position 5 with values on channels 0 and 3.
     */
    static DecentLabels busy() {
        DecentLabels x = new DecentLabels(5, 10);
        x.setActsFor(0, 1, true);
        x.setActsFor(1, 2, true);
        x.setPolicy(5, 2, 8);
        x.setPolicy(5, 3, 0);
        x.setPolicy(18, 2, 31);
        x.setAuthority(9);
        x.addStmt(DecentLabels.K_SET, 1, 7, 0);
        x.addStmt(DecentLabels.K_OUT, 0, 1, 0);
        x.addStmt(DecentLabels.K_OUT, 0, 2, 0);
        x.addStmt(DecentLabels.K_OUT, 3, 2, 0);
        x.addStmt(DecentLabels.K_DECLASSIFY, 4, 5, 0);
        x.addStmt(DecentLabels.K_IF, 2, 0, 0);
        x.addStmt(DecentLabels.K_SET, 3, -1, 0);
        x.addStmt(DecentLabels.K_END, 0, 0, 0);
        x.setInput(2, -20);
        x.setInput(5, 50);
        x.setInput(15, 150);
        x.check();
        x.start();
        x.run(5);
        x.setInput(15, 151);
        return x;
    }

    /** A busy object whose program ran to its end. */
    static DecentLabels halted() {
        DecentLabels x = busy();
        x.run(100);
        return x;
    }

    static void refused(String call, DecentLabels x, Seen before, long got, long want) {
        Due.is(call, got, want);
        Due.same("changed by " + call, before.changedTo(Seen.of(x)), "");
    }
}
