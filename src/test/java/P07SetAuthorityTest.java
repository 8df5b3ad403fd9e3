/** Promise 7: setAuthority. */
public final class P07SetAuthorityTest {
    public static void main(String[] args) {
        refusals(Samples.busy());
        refusals(Samples.halted());
        DecentLabels x = Samples.busy();
        Seen before = Seen.of(x);
        Due.is("the same mask", x.setAuthority(9), true);
        Due.same("the same mask", before.changedTo(Seen.of(x)), Samples.RESET_OF_BUSY);
        x = Samples.busy();
        Due.is("the greatest mask", x.setAuthority(31), true);
        Due.same("the greatest mask", before.changedTo(Seen.of(x)),
            Samples.RESET_OF_BUSY.replace("value 34", "value 32=31, value 34"));
        Due.is("mask 0", x.setAuthority(0), true);
        Due.is("mask 0, read", x.getValue(DecentLabels.SLOT_AUTHORITY), 0);
        Due.end("P07SetAuthorityTest");
    }

    private static void refusals(DecentLabels x) {
        Seen before = Seen.of(x);
        int[] wrong = {-1, -2, 32, 33, 64, 256, Integer.MIN_VALUE, Integer.MAX_VALUE};
        for (int mask : wrong) {
            String call = "setAuthority(" + mask + ")";
            Samples.refused(call, x, before, x.setAuthority(mask) ? 1 : 0, 0);
        }
    }
}
