/** Promise 5: getPolicy. */
public final class P05GetPolicyTest {
    public static void main(String[] args) {
        Due.test("-2 if target < 0", () -> Wrong.below(0).forEach(t -> outside(t, 2)));
        Due.test("-2 if target >= 20", () -> Wrong.from(20).forEach(t -> outside(t, 2)));
        Due.test("-2 if owner < 0", () -> Wrong.below(0).forEach(o -> outside(5, o)));
        Due.test("-2 if owner >= P", () -> Wrong.from(5).forEach(o -> outside(5, o)));
        Due.test("-2 if both are wrong", P05GetPolicyTest::bothOutside);
        Due.test("-2 for owner P, whatever P is", P05GetPolicyTest::endOfTheRange);
        Due.test("-1 if the target has no policy for that owner", P05GetPolicyTest::none);
        Due.test("otherwise the reader mask, a value in [0,2^P)", P05GetPolicyTest::everyMask);
        Due.test("it changes nothing", P05GetPolicyTest::changesNothing);
        Due.end("P05GetPolicyTest");
    }

    private static void outside(int target, int owner) {
        Calls.refused("getPolicy(" + target + ", " + owner + ")", -2, x -> x.getPolicy(target, owner));
    }

    private static void bothOutside() {
        outside(-1, -1);
        outside(20, 5);
        outside(-1, 5);
        outside(20, -1);
        // Cells that stand inside a table of the policies although target and owner do not.
        outside(-1, 8);
        outside(1, -8);
    }

    private static void endOfTheRange() {
        for (int principals = 2; principals <= 8; principals++) {
            DecentLabels x = new DecentLabels(principals, 8);
            Due.is("owner P", x.getPolicy(0, principals), -2);
            Due.is("owner P-1", x.getPolicy(0, principals - 1), -1);
            Due.is("target 19", x.getPolicy(19, principals - 1), -1);
            Due.is("target 20", x.getPolicy(20, principals - 1), -2);
        }
    }

    private static void none() {
        DecentLabels x = Stage.RUNNING.make();
        Due.is("another owner has one", x.getPolicy(5, 4), -1);
        Due.is("another target has one", x.getPolicy(6, 2), -1);
        Due.is("the first target", x.getPolicy(0, 0), -1);
        Due.is("the last target", x.getPolicy(19, 4), -1);
        x.setPolicy(5, 2, -1);
        Due.is("removed", x.getPolicy(5, 2), -1);
    }

    private static void everyMask() {
        for (int principals = 2; principals <= 8; principals++) {
            DecentLabels x = new DecentLabels(principals, 8);
            for (int mask = 0; mask < 1 << principals; mask++) {
                x.setPolicy(19, principals - 1, mask);
                Due.is("getPolicy", x.getPolicy(19, principals - 1), mask);
            }
        }
    }

    private static void changesNothing() {
        Calls.changesNothing("getPolicy(5, 2)", x -> x.getPolicy(5, 2));
        Calls.changesNothing("getPolicy(5, 3)", x -> x.getPolicy(5, 3));
        Calls.changesNothing("getPolicy(0, 0)", x -> x.getPolicy(0, 0));
        Calls.changesNothing("getPolicy(20, 0)", x -> x.getPolicy(20, 0));
        Calls.changesNothing("getPolicy(5, 5)", x -> x.getPolicy(5, 5));
    }
}
