/** Promise 8: setInput. */
public final class P08SetInputTest {
    public static void main(String[] args) {
        DecentLabels x = Samples.busy();
        Seen before = Seen.of(x);
        int[] wrong = {-1, 16, 17, 32, Integer.MIN_VALUE, Integer.MAX_VALUE};
        for (int v : wrong) {
            Samples.refused("setInput(" + v + ", 3)", x, before, x.setInput(v, 3) ? 1 : 0, 0);
        }
        storesWithoutReset(Samples.busy());
        storesWithoutReset(Samples.halted());
        storesWithoutReset(new DecentLabels(2, 8));
        loadedByStartOnly();
        Due.end("P08SetInputTest");
    }

    private static void storesWithoutReset(DecentLabels x) {
        int[] values = {1, -1, Integer.MIN_VALUE, Integer.MAX_VALUE, 77};
        for (int v = 0; v < 16; v++) {
            for (int value : values) {
                Seen before = Seen.of(x);
                String call = "setInput(" + v + ", " + value + ")";
                Due.is(call, x.setInput(v, value), true);
                Due.same(call, before.changedTo(Seen.of(x)), "value " + (16 + v) + "=" + value);
            }
        }
    }

    private static void loadedByStartOnly() {
        DecentLabels x = new DecentLabels(2, 8);
        x.addStmt(DecentLabels.K_OUT, 0, 6, 0);
        x.addStmt(DecentLabels.K_OUT, 0, 6, 0);
        x.setInput(6, 5);
        x.check();
        x.setInput(6, 8);
        Due.is("not before start", x.getValue(6), 0);
        x.start();
        Due.is("at start", x.getValue(6), 8);
        x.run(1);
        x.setInput(6, 13);
        x.run(10);
        Due.is("not while running", x.outValue(0, 1), 8);
        Due.is("nor at the end", x.getValue(6), 8);
        x.start();
        Due.is("at the next start", x.getValue(6), 13);
    }
}
