/** Promise 3: actsFor. */
public final class P03ActsForTest {
    public static void main(String[] args) {
        outOfRange();
        longChains();
        cycles();
        changesNothing();
        Due.end("P03ActsForTest");
    }

    private static void outOfRange() {
        DecentLabels x = new DecentLabels(3, 8);
        x.setActsFor(0, 1, true);
        int[] wrong = {-1, 3, 4, 7, 8, 32, 33, Integer.MIN_VALUE, Integer.MAX_VALUE};
        for (int p : wrong) {
            Due.is("actsFor(" + p + ", 1)", x.actsFor(p, 1), false);
            Due.is("actsFor(0, " + p + ")", x.actsFor(0, p), false);
            Due.is("actsFor(" + p + ", " + p + ")", x.actsFor(p, p), false);
        }
    }

    // Chains through all eight principals, in several orders of the middle ones.
    private static void longChains() {
        int[][] orders = {{0, 1, 2, 3, 4, 5, 6, 7}, {7, 6, 5, 4, 3, 2, 1, 0},
            {3, 7, 0, 5, 2, 6, 1, 4}, {6, 0, 7, 1, 5, 2, 4, 3}};
        for (int[] order : orders) {
            DecentLabels x = new DecentLabels(8, 8);
            for (int i = 0; i + 1 < 8; i++) {
                x.setActsFor(order[i], order[i + 1], true);
            }
            for (int i = 0; i < 8; i++) {
                for (int j = 0; j < 8; j++) {
                    Due.is("chain, " + i + " to " + j, x.actsFor(order[i], order[j]), i <= j);
                }
            }
            x.setActsFor(order[3], order[4], false);
            for (int i = 0; i < 8; i++) {
                for (int j = 0; j < 8; j++) {
                    boolean due = i <= j && (j <= 3 || i >= 4);
                    Due.is("cut chain, " + i + " to " + j, x.actsFor(order[i], order[j]), due);
                }
            }
        }
    }

    private static void cycles() {
        DecentLabels x = new DecentLabels(5, 8);
        x.setActsFor(0, 2, true);
        x.setActsFor(2, 4, true);
        x.setActsFor(4, 0, true);
        x.setActsFor(4, 1, true);
        for (int a = 0; a < 5; a++) {
            for (int b = 0; b < 5; b++) {
                boolean due = a == b || a % 2 == 0 && b != 3;
                Due.is("cycle, actsFor(" + a + ", " + b + ")", x.actsFor(a, b), due);
            }
        }
    }

    private static void changesNothing() {
        DecentLabels x = Samples.busy();
        Seen before = Seen.of(x);
        Due.is("actsFor(0, 2)", x.actsFor(0, 2), true);
        Due.is("actsFor(2, 0)", x.actsFor(2, 0), false);
        Due.same("actsFor", before.changedTo(Seen.of(x)), "");
    }
}
