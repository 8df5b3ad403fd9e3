/** Promise 15: getValue. */
public final class P15GetValueTest {
    public static void main(String[] args) {
        DecentLabels x = Samples.busy();
        int[] variables = {0, 7, -20, 0, 50, 50, 0, 0, 0, 0, 0, 0, 0, 0, 0, 150};
        int[] inputs = {0, 0, -20, 0, 0, 50, 0, 0, 0, 0, 0, 0, 0, 0, 0, 151};
        Seen before = Seen.of(x);
        for (int v = 0; v < 16; v++) {
            Due.is("variable " + v, x.getValue(v), variables[v]);
            Due.is("input " + v, x.getValue(DecentLabels.SLOT_INPUT + v), inputs[v]);
        }
        Due.is("authority", x.getValue(DecentLabels.SLOT_AUTHORITY), 9);
        Due.is("length", x.getValue(DecentLabels.SLOT_LENGTH), 8);
        Due.is("position", x.getValue(DecentLabels.SLOT_POSITION), 5);
        Due.is("status", x.getValue(DecentLabels.SLOT_STATUS), DecentLabels.ST_RUNNING);
        Due.is("last check", x.getValue(DecentLabels.SLOT_CHECK), 0);
        int[] others = {-1, -16, 37, 38, 48, 64, Integer.MIN_VALUE, Integer.MAX_VALUE};
        for (int slot : others) {
            Due.is("slot " + slot, x.getValue(slot), 0);
        }
        Due.same("getValue", before.changedTo(Seen.of(x)), "");
        x.addStmt(DecentLabels.K_END, 0, 0, 0);
        Due.is("last check after a reset", x.getValue(DecentLabels.SLOT_CHECK), -1);
        x.check();
        Due.is("last check that failed", x.getValue(DecentLabels.SLOT_CHECK), 256 + 8);
        Due.is("status", x.getValue(DecentLabels.SLOT_STATUS), DecentLabels.ST_UNCHECKED);
        Due.end("P15GetValueTest");
    }
}
