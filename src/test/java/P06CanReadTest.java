/** Promise 6: canRead. */
public final class P06CanReadTest {
    public static void main(String[] args) {
        outOfRange();
        ownerAndReaders();
        everyPolicyCounts();
        actorsRead();
        followsTheHierarchy();
        Due.end("P06CanReadTest");
    }

    private static void outOfRange() {
        DecentLabels x = Samples.busy();
        Seen before = Seen.of(x);
        int[] wrong = {-1, 5, 7, 8, 32, Integer.MIN_VALUE, Integer.MAX_VALUE};
        for (int p : wrong) {
            Due.is("canRead(" + p + ", 0)", x.canRead(p, 0), false);
        }
        int[] wrongTargets = {-1, 20, Integer.MIN_VALUE, Integer.MAX_VALUE};
        for (int target : wrongTargets) {
            Due.is("canRead(0, " + target + ")", x.canRead(0, target), false);
        }
        Due.same("canRead", before.changedTo(Seen.of(x)), "");
    }

    private static void readersAre(String of, DecentLabels x, int target, int readers) {
        for (int p = 0; p < 8; p++) {
            boolean due = (readers >> p & 1) == 1;
            Due.is(of + ": canRead(" + p + ", " + target + ")", x.canRead(p, target), due);
        }
    }

    private static void ownerAndReaders() {
        DecentLabels x = new DecentLabels(8, 8);
        readersAre("empty label", x, 19, 255);
        x.setPolicy(19, 7, 0);
        readersAre("owner alone", x, 19, 0b10000000);
        x.setPolicy(19, 7, 0b00000101);
        readersAre("owner and readers", x, 19, 0b10000101);
        readersAre("another target", x, 18, 255);
        x.setPolicy(19, 7, 255);
        readersAre("all", x, 19, 255);
    }

    private static void everyPolicyCounts() {
        DecentLabels x = new DecentLabels(4, 8);
        x.setPolicy(3, 0, 0b0110);
        x.setPolicy(3, 1, 0b1100);
        readersAre("two owners", x, 3, 0b0110);
        x.setPolicy(3, 3, 0b0010);
        readersAre("three owners", x, 3, 0b0010);
        x.setPolicy(3, 2, 0);
        readersAre("nobody", x, 3, 0);
    }

    private static void actorsRead() {
        DecentLabels x = new DecentLabels(6, 8);
        x.setActsFor(4, 5, true);
        x.setActsFor(5, 0, true);
        x.setActsFor(3, 1, true);
        x.setPolicy(0, 0, 0b000010);
        readersAre("actors of owner and reader", x, 0, 0b111011);
        x.setPolicy(1, 3, 0);
        readersAre("not those acted for", x, 1, 0b001000);
        x.setPolicy(2, 1, 0b010000);
        readersAre("reader's inferiors do not read", x, 2, 0b011010);
    }

    private static void followsTheHierarchy() {
        DecentLabels x = new DecentLabels(3, 8);
        x.setPolicy(16, 0, 0);
        Due.is("before", x.canRead(2, 16), false);
        x.setActsFor(1, 0, true);
        x.setActsFor(2, 1, true);
        Due.is("by a chain", x.canRead(2, 16), true);
        x.setActsFor(1, 0, false);
        Due.is("chain cut", x.canRead(2, 16), false);
    }
}
