/** Promise 13: start. */
public final class P13StartTest {
    public static void main(String[] args) {
        refusedWhenUnchecked();
        startsFromReady();
        startsOver(Samples.busy(), "running");
        startsOver(Samples.halted(), "halted");
        Due.end("P13StartTest");
    }

    private static void refusedWhenUnchecked() {
        DecentLabels x = new DecentLabels(2, 8);
        x.setInput(3, 33);
        Samples.refused("never checked", x, Seen.of(x), x.start() ? 1 : 0, 0);
        x.addStmt(DecentLabels.K_END, 0, 0, 0);
        x.check();
        Samples.refused("check failed", x, Seen.of(x), x.start() ? 1 : 0, 0);
        x = Samples.busy();
        x.setAuthority(9);
        Samples.refused("reset since the check", x, Seen.of(x), x.start() ? 1 : 0, 0);
    }

    private static void startsFromReady() {
        DecentLabels x = new DecentLabels(2, 8);
        for (int v = 0; v < 16; v++) {
            x.setInput(v, 100 - 7 * v);
        }
        Due.is("check()", x.check(), 0);
        Due.is("start()", x.start(), true);
        for (int v = 0; v < 16; v++) {
            Due.is("variable " + v, x.getValue(v), 100 - 7 * v);
            Due.is("input " + v, x.getValue(16 + v), 100 - 7 * v);
        }
        Due.is("status", x.getValue(DecentLabels.SLOT_STATUS), DecentLabels.ST_RUNNING);
        Due.is("last check", x.getValue(DecentLabels.SLOT_CHECK), 0);
    }

    private static void startsOver(DecentLabels x, String from) {
        Seen before = Seen.of(x);
        boolean halted = x.getValue(DecentLabels.SLOT_STATUS) == DecentLabels.ST_HALTED;
        Due.is("start() from " + from, x.start(), true);
        Due.same("start() from " + from, before.changedTo(Seen.of(x)),
            "out 0 0=0, out 0 1=0, out 3 0=0, outCount 0=0, outCount 3=0, value 1=0, value 15=151, "
            + (halted ? "value 3=0, value 34=0, value 35=2, value 4=0" : "value 34=0, value 4=0"));
        x.run(2);
        Due.is("runs from the start", x.outValue(0, 0), 7);
        Due.is("runs from the start", x.outCount(0), 1);
    }
}
