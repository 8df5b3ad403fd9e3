/** Promise 2: setActsFor. */
public final class P02SetActsForTest {
    public static void main(String[] args) {
        refusals(Samples.busy());
        refusals(Samples.halted());
        setsOneEdge();
        resetsEvenWithoutChange();
        clearsOnlyTheDirectEdge();
        Due.end("P02SetActsForTest");
    }

    private static void refusals(DecentLabels x) {
        int[][] wrong = {{0, 0}, {4, 4}, {-1, 0}, {0, -1}, {5, 0}, {0, 5}, {5, 5}, {-1, -1}, {7, 1},
            {Integer.MAX_VALUE, 0}, {0, Integer.MIN_VALUE}, {32, 1}, {1, 33}};
        Seen before = Seen.of(x);
        for (int[] pair : wrong) {
            for (int on = 0; on < 2; on++) {
                String call = "setActsFor(" + pair[0] + ", " + pair[1] + ", " + (on == 1) + ")";
                long got = x.setActsFor(pair[0], pair[1], on == 1) ? 1 : 0;
                Samples.refused(call, x, before, got, 0);
            }
        }
    }

    private static void setsOneEdge() {
        DecentLabels x = Samples.busy();
        Seen before = Seen.of(x);
        Due.is("setActsFor(4, 3, true)", x.setActsFor(4, 3, true), true);
        Due.same("setActsFor(4, 3, true)", before.changedTo(Seen.of(x)),
            "actsFor 4 3=1, canRead 4 5=1, " + Samples.RESET_OF_BUSY);
        before = Seen.of(x);
        Due.is("setActsFor(4, 3, false)", x.setActsFor(4, 3, false), true);
        Due.same("setActsFor(4, 3, false)", before.changedTo(Seen.of(x)),
            "actsFor 4 3=0, canRead 4 5=0");
    }

    private static void resetsEvenWithoutChange() {
        DecentLabels x = Samples.busy();
        Seen before = Seen.of(x);
        Due.is("edge is there", x.setActsFor(0, 1, true), true);
        Due.same("edge is there", before.changedTo(Seen.of(x)), Samples.RESET_OF_BUSY);
        x = Samples.busy();
        Due.is("edge is not there", x.setActsFor(3, 1, false), true);
        Due.same("edge is not there", before.changedTo(Seen.of(x)), Samples.RESET_OF_BUSY);
    }

    private static void clearsOnlyTheDirectEdge() {
        DecentLabels x = new DecentLabels(4, 8);
        x.setActsFor(0, 1, true);
        x.setActsFor(1, 2, true);
        x.setActsFor(0, 2, true);
        x.setActsFor(0, 2, false);
        Due.is("by the chain still", x.actsFor(0, 2), true);
        x.setActsFor(0, 2, true);
        x.setActsFor(1, 2, false);
        Due.is("by the direct edge still", x.actsFor(0, 2), true);
        Due.is("no more", x.actsFor(1, 2), false);
        x.setActsFor(2, 1, true);
        x.setActsFor(1, 2, false);
        Due.is("the other way stays", x.actsFor(2, 1), true);
    }
}
