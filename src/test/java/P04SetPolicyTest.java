/** Promise 4: setPolicy. */
public final class P04SetPolicyTest {
    public static void main(String[] args) {
        refusals(Samples.busy());
        refusals(Samples.halted());
        edgesAreTaken();
        touchesOneCell();
        removes();
        Due.end("P04SetPolicyTest");
    }

    private static void refusals(DecentLabels x) {
        int[][] wrong = {{-1, 0, 1}, {20, 0, 1}, {Integer.MIN_VALUE, 0, 1}, {Integer.MAX_VALUE, 0, 1},
            {0, -1, 1}, {0, 5, 1}, {0, 7, 1}, {0, 8, 1}, {0, Integer.MAX_VALUE, 1}, {19, 5, -1},
            {0, 0, -2}, {0, 0, 32}, {0, 0, 33}, {0, 0, 256}, {5, 2, Integer.MIN_VALUE},
            {5, 2, Integer.MAX_VALUE}, {20, 5, -1}, {-1, -1, -1}};
        Seen before = Seen.of(x);
        for (int[] w : wrong) {
            String call = "setPolicy(" + w[0] + ", " + w[1] + ", " + w[2] + ")";
            Samples.refused(call, x, before, x.setPolicy(w[0], w[1], w[2]) ? 1 : 0, 0);
        }
    }

    private static void edgesAreTaken() {
        for (int principals = 2; principals <= 8; principals++) {
            DecentLabels x = new DecentLabels(principals, 8);
            int greatest = (1 << principals) - 1;
            Due.is("greatest mask", x.setPolicy(19, principals - 1, greatest), true);
            Due.is("greatest mask, read", x.getPolicy(19, principals - 1), greatest);
            Due.is("mask too great", x.setPolicy(19, principals - 1, greatest + 1), false);
            Due.is("mask 0", x.setPolicy(0, 0, 0), true);
            Due.is("mask 0, read", x.getPolicy(0, 0), 0);
        }
    }

    private static void touchesOneCell() {
        DecentLabels x = Samples.busy();
        Seen before = Seen.of(x);
        Due.is("setPolicy(5, 3, 16)", x.setPolicy(5, 3, 16), true);
        Due.same("setPolicy(5, 3, 16)", before.changedTo(Seen.of(x)),
            "out 0 0=0, out 0 1=0, out 3 0=0, outCount 0=0, outCount 3=0, policy 5 3=16, "
            + "value 34=0, value 35=0, value 36=-1");
        x = Samples.busy();
        Due.is("the same again", x.setPolicy(5, 2, 8), true);
        Due.same("the same again", before.changedTo(Seen.of(x)), Samples.RESET_OF_BUSY);
        everyCellIsApart();
    }

    private static void everyCellIsApart() {
        DecentLabels x = new DecentLabels(8, 8);
        for (int target = 0; target < 20; target++) {
            for (int owner = 0; owner < 8; owner++) {
                x.setPolicy(target, owner, (target * 8 + owner) & 255);
            }
        }
        for (int target = 0; target < 20; target++) {
            for (int owner = 0; owner < 8; owner++) {
                Due.is("cell " + target + " " + owner, x.getPolicy(target, owner), target * 8 + owner);
            }
        }
    }

    private static void removes() {
        DecentLabels x = Samples.busy();
        Seen before = Seen.of(x);
        Due.is("nothing to remove", x.setPolicy(6, 2, -1), true);
        Due.same("nothing to remove", before.changedTo(Seen.of(x)), Samples.RESET_OF_BUSY);
        before = Seen.of(x);
        Due.is("remove", x.setPolicy(5, 3, -1), true);
        Due.same("remove", before.changedTo(Seen.of(x)),
            "canRead 0 5=1, canRead 1 5=1, canRead 2 5=1, policy 5 3=-1");
    }
}
