/** Promise 5: getPolicy. */
public final class P05GetPolicyTest {
    public static void main(String[] args) {
        DecentLabels x = Samples.busy();
        Seen before = Seen.of(x);
        int[] wrongTargets = {-1, 20, 21, Integer.MIN_VALUE, Integer.MAX_VALUE};
        for (int target : wrongTargets) {
            Due.is("getPolicy(" + target + ", 0)", x.getPolicy(target, 0), -2);
        }
        int[] wrongOwners = {-1, 5, 7, 8, Integer.MIN_VALUE, Integer.MAX_VALUE};
        for (int owner : wrongOwners) {
            Due.is("getPolicy(5, " + owner + ")", x.getPolicy(5, owner), -2);
        }
        Due.is("a mask", x.getPolicy(5, 2), 8);
        Due.is("mask 0 is a policy", x.getPolicy(5, 3), 0);
        Due.is("the greatest mask", x.getPolicy(18, 2), 31);
        Due.is("no policy", x.getPolicy(5, 4), -1);
        Due.is("no policy on target 0", x.getPolicy(0, 0), -1);
        Due.is("no policy on target 19", x.getPolicy(19, 4), -1);
        Due.same("getPolicy", before.changedTo(Seen.of(x)), "");
        Due.end("P05GetPolicyTest");
    }
}
