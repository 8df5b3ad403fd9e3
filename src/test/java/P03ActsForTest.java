/** Promise 3: actsFor. */
public final class P03ActsForTest {
    public static void main(String[] args) {
        Due.test("false if a < 0", () -> Wrong.below(0).forEach(a -> isFalse(a, 1)));
        Due.test("false if a >= P", () -> Wrong.from(5).forEach(a -> isFalse(a, 1)));
        Due.test("false if b < 0", () -> Wrong.below(0).forEach(b -> isFalse(0, b)));
        Due.test("false if b >= P", () -> Wrong.from(5).forEach(b -> isFalse(0, b)));
        Due.test("false if a == b is not in [0,P)", () -> Wrong.outside(5).forEach(p -> isFalse(p, p)));
        Due.test("actsFor(a, a) is true for every a in [0,P)", P03ActsForTest::reflexive);
        Due.test("a chain of direct edges, of any length", P03ActsForTest::longChains);
        Due.test("cycles are allowed", P03ActsForTest::cycles);
        Due.test("every edge there can be, set and cleared again", P03ActsForTest::allEdges);
        Due.test("under the current closure: edges come and go", P03ActsForTest::followsTheEdges);
        Due.test("it changes nothing", P03ActsForTest::changesNothing);
        Due.end("P03ActsForTest");
    }

    private static void isFalse(int a, int b) {
        Calls.refused("actsFor(" + a + ", " + b + ")", false, x -> x.actsFor(a, b));
    }

    private static void reflexive() {
        for (int principals = 2; principals <= 8; principals++) {
            DecentLabels x = new DecentLabels(principals, 8);
            for (int a = 0; a < principals; a++) {
                Due.is("actsFor(" + a + ", " + a + ")", x.actsFor(a, a), true);
                x.setActsFor(a, (a + 1) % principals, true);
                Due.is("actsFor(" + a + ", " + a + ") with an edge", x.actsFor(a, a), true);
                x.setActsFor(a, (a + 1) % principals, false);
                Due.is("actsFor(" + a + ", " + a + ") without it", x.actsFor(a, a), true);
            }
            Due.is("a == b == P", x.actsFor(principals, principals), false);
        }
    }

    // Chains through all eight principals, in several orders of the middle ones.
    private static void longChains() {
        int[][] orders = {{0, 1, 2, 3, 4, 5, 6, 7}, {7, 6, 5, 4, 3, 2, 1, 0},
            {3, 7, 0, 5, 2, 6, 1, 4}, {6, 0, 7, 1, 5, 2, 4, 3}};
        for (int[] order : orders) {
            for (int cut = 0; cut < 7; cut++) {
                chainAndCut(order, cut);
            }
        }
    }

    private static void chainAndCut(int[] order, int cut) {
        DecentLabels x = new DecentLabels(8, 8);
        for (int i = 0; i + 1 < 8; i++) {
            x.setActsFor(order[i], order[i + 1], true);
        }
        for (int pair = 0; pair < 64; pair++) {
            int i = pair / 8;
            int j = pair % 8;
            Due.is("chain, " + i + " to " + j, x.actsFor(order[i], order[j]), i <= j);
        }
        x.setActsFor(order[cut], order[cut + 1], false);
        for (int pair = 0; pair < 64; pair++) {
            int i = pair / 8;
            int j = pair % 8;
            boolean due = i <= j && (j <= cut || i > cut);
            Due.is("cut chain, " + i + " to " + j, x.actsFor(order[i], order[j]), due);
        }
    }

    private static void cycles() {
        DecentLabels x = new DecentLabels(5, 8);
        x.setActsFor(0, 2, true);
        x.setActsFor(2, 4, true);
        x.setActsFor(4, 0, true);
        x.setActsFor(4, 1, true);
        for (int a = 0; a < 5; a++) {
            for (int b = 0; b < 5; b++) {
                boolean due = a == b || a % 2 == 0 && b != 3;
                Due.is("cycle, actsFor(" + a + ", " + b + ")", x.actsFor(a, b), due);
            }
        }
        for (int principals = 2; principals <= 8; principals++) {
            cycleOfAll(principals);
        }
    }

    private static void cycleOfAll(int principals) {
        DecentLabels x = new DecentLabels(principals, 8);
        for (int a = 0; a < principals; a++) {
            Due.is("edge of the cycle", x.setActsFor(a, (a + 1) % principals, true), true);
        }
        for (int pair = 0; pair < principals * principals; pair++) {
            Due.is("everyone for everyone", x.actsFor(pair / principals, pair % principals), true);
        }
        x.setActsFor(principals - 1, 0, false);
        for (int pair = 0; pair < principals * principals; pair++) {
            int a = pair / principals;
            int b = pair % principals;
            Due.is("the cycle is cut, actsFor(" + a + ", " + b + ")", x.actsFor(a, b), a <= b);
        }
    }

    private static void allEdges() {
        DecentLabels x = new DecentLabels(8, 8);
        for (int edge = 0; edge < 64; edge++) {
            Due.is("set", x.setActsFor(edge / 8, edge % 8, true), edge / 8 != edge % 8);
        }
        for (int pair = 0; pair < 64; pair++) {
            Due.is("everyone for everyone", x.actsFor(pair / 8, pair % 8), true);
        }
        for (int edge = 0; edge < 64; edge++) {
            Due.is("cleared", x.setActsFor(edge / 8, edge % 8, false), edge / 8 != edge % 8);
        }
        for (int pair = 0; pair < 64; pair++) {
            Due.is("each for itself", x.actsFor(pair / 8, pair % 8), pair / 8 == pair % 8);
        }
    }

    private static void followsTheEdges() {
        DecentLabels x = new DecentLabels(3, 8);
        x.setActsFor(2, 1, true);
        Due.is("half a chain", x.actsFor(2, 0), false);
        x.setActsFor(1, 0, true);
        Due.is("a chain", x.actsFor(2, 0), true);
        Due.is("not backwards", x.actsFor(0, 2), false);
        x.setActsFor(2, 1, false);
        Due.is("half a chain again", x.actsFor(2, 0), false);
        Due.is("the other half", x.actsFor(1, 0), true);
    }

    private static void changesNothing() {
        Calls.changesNothing("actsFor(0, 2)", x -> x.actsFor(0, 2));
        Calls.changesNothing("actsFor(2, 0)", x -> x.actsFor(2, 0));
        Calls.changesNothing("actsFor(4, 4)", x -> x.actsFor(4, 4));
        Calls.changesNothing("actsFor(5, 5)", x -> x.actsFor(5, 5));
        Calls.changesNothing("actsFor(0, -1)", x -> x.actsFor(0, -1));
    }
}
