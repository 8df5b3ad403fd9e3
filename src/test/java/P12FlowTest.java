/** Promise 12: the flow tests of the check rules, with JOIN and FLOW. */
public final class P12FlowTest {
    private static final int FLOW = DecentLabels.ERR_FLOW;

    public static void main(String[] args) {
        Due.test("SET a: pc <= L(a)", P12FlowTest::sets);
        Due.test("MOVE a b: (L(b)+pc) <= L(a)", P12FlowTest::moves);
        Due.test("ADD, SUB, MUL, LESS, EQUAL a b c: (L(b)+L(c)+pc) <= L(a)", P12FlowTest::calculates);
        Due.test("OUT a b: (L(b)+pc) <= LC(a)", P12FlowTest::outputs);
        Due.test("LC(c) is the label of target 16+c", P12FlowTest::channelsHaveTheirOwnLabels);
        Due.test("pc starts as the empty label", P12FlowTest::pcStartsEmpty);
        Due.test("IF a, WHILE a: pc := pc + L(a)", P12FlowTest::pcGrows);
        Due.test("ELSE: pc is unchanged", P12FlowTest::pcInElse);
        Due.test("END: pc := its remembered pc", P12FlowTest::pcComesBack);
        Due.test("eight blocks add up in the pc, and go one by one", P12FlowTest::pcOfEightBlocks);
        Due.test("JOIN: R1 & R2 if the owner is in both", P12FlowTest::joinsMasks);
        Due.test("JOIN: else the mask of the one that has it", P12FlowTest::joinsOwners);
        Due.test("FLOW: the empty label flows everywhere", P12FlowTest::emptyFlows);
        Due.test("FLOW: a policy flows to no empty label, even if all may read", P12FlowTest::policyIsNeeded);
        Due.test("FLOW: for every policy of L1", P12FlowTest::everyOwnerCounts);
        Due.test("FLOW: o2 actsfor o1", P12FlowTest::ownersMustActFor);
        Due.test("FLOW: EFF(o2,R2) a subset of EFF(o1,R1)", P12FlowTest::readersMustBeFewer);
        Due.test("FLOW: one policy of L2 must do; they are not taken together", P12FlowTest::onePolicyMustDo);
        Due.test("all of these use the hierarchy at the moment", P12FlowTest::hierarchyOfTheMoment);
        Due.end("P12FlowTest");
    }

    // v0 is secret of owner 0, v1 is public, v2 as secret as v0; channel 3 as v0, channel 0 public.
    private static DecentLabels secrets() {
        DecentLabels x = new DecentLabels(3, 64);
        x.setPolicy(0, 0, 2);
        x.setPolicy(2, 0, 2);
        x.setPolicy(19, 0, 2);
        return x;
    }

    private static int[][] inBlock(int[] opening, int[] statement) {
        return new int[][] {opening, statement, Programs.END};
    }

    private static void failsInsideAlone(String what, DecentLabels x, int[] statement) {
        Programs.passes(what + ", outside", x, statement);
        Programs.checks(what + ", in an IF", x, FLOW, 1, inBlock(Programs.when(0), statement));
        Programs.checks(what + ", in a WHILE", x, FLOW, 1, inBlock(Programs.loop(0), statement));
    }

    private static void passesInside(String what, DecentLabels x, int[] statement) {
        Programs.passes(what + ", in an IF", x, inBlock(Programs.when(0), statement));
        Programs.passes(what + ", in a WHILE", x, inBlock(Programs.loop(0), statement));
    }

    private static void sets() {
        DecentLabels x = secrets();
        failsInsideAlone("public", x, Programs.set(1, 5));
        passesInside("secret", x, Programs.set(2, 5));
        // The constant is not a variable: v0's label has no part in it.
        Programs.passes("constant 0", x, Programs.set(1, 0));
    }

    private static void moves() {
        DecentLabels x = secrets();
        Programs.passes("up", x, Programs.move(0, 1));
        Programs.passes("across", x, Programs.move(0, 2), Programs.move(2, 0), Programs.move(0, 0));
        Programs.checks("down", x, FLOW, 0, Programs.move(1, 0));
        failsInsideAlone("public", x, Programs.move(1, 3));
        passesInside("secret", x, Programs.move(2, 0));
        passesInside("up", x, Programs.move(2, 1));
    }

    private static void calculates() {
        DecentLabels x = secrets();
        for (int kind = DecentLabels.K_ADD; kind <= DecentLabels.K_EQUAL; kind++) {
            Programs.passes("up by b", x, Programs.calc(kind, 0, 2, 1));
            Programs.passes("up by c", x, Programs.calc(kind, 0, 1, 2));
            Programs.passes("up by none", x, Programs.calc(kind, 0, 1, 1));
            Programs.passes("across", x, Programs.calc(kind, 2, 0, 0));
            Programs.checks("down by b", x, FLOW, 0, Programs.calc(kind, 1, 0, 1));
            Programs.checks("down by c", x, FLOW, 0, Programs.calc(kind, 1, 1, 0));
            Programs.checks("down by both", x, FLOW, 0, Programs.calc(kind, 1, 0, 2));
            failsInsideAlone("public", x, Programs.calc(kind, 1, 3, 4));
            passesInside("secret", x, Programs.calc(kind, 2, 3, 4));
        }
    }

    private static void outputs() {
        DecentLabels x = secrets();
        Programs.passes("to its level or up", x, Programs.out(3, 0), Programs.out(3, 1), Programs.out(0, 1));
        Programs.checks("down", x, FLOW, 0, Programs.out(0, 0));
        Programs.checks("down", x, FLOW, 1, Programs.out(3, 0), Programs.out(2, 0));
        failsInsideAlone("public", x, Programs.out(0, 1));
        passesInside("secret", x, Programs.out(3, 1));
    }

    private static void channelsHaveTheirOwnLabels() {
        for (int c = 0; c < 4; c++) {
            DecentLabels x = new DecentLabels(8, 8);
            x.setPolicy(15, 7, 0);
            x.setPolicy(16 + c, 7, 0);
            for (int other = 0; other < 4; other++) {
                Programs.checks("out to " + other, x, other == c ? 0 : FLOW, 0, Programs.out(other, 15));
            }
            x = new DecentLabels(8, 8);
            x.setPolicy(15, 7, 0);
            x.setPolicy(c, 7, 0);
            Programs.checks("the variable's label is not the channel's", x, FLOW, 0, Programs.out(c, 15));
        }
    }

    private static void pcStartsEmpty() {
        for (int owner = 0; owner < 8; owner++) {
            DecentLabels x = new DecentLabels(8, 8);
            for (int target = 1; target < 20; target++) {
                x.setPolicy(target, owner, 0);
            }
            Programs.passes("all but v0 are secret", x, Programs.set(0, 1));
            Programs.checks("a check that fails in a block", x, FLOW, 1, Programs.loop(1), Programs.set(0, 1));
            Programs.passes("leaves no pc to the next", x, Programs.set(0, 1));
            Programs.checks("an open block", x, DecentLabels.ERR_UNCLOSED, 1, Programs.when(1));
            Programs.passes("leaves no pc to the next", x, Programs.set(0, 1));
        }
    }

    private static void pcGrows() {
        DecentLabels x = secrets();
        passesInside("nothing but a secret", x, Programs.set(2, 1));
        Programs.passes("nothing inside", x, Programs.when(0), Programs.END, Programs.loop(0), Programs.END);
        Programs.passes("a public condition", x, inBlock(Programs.when(1), Programs.set(3, 1)));
        Programs.checks("from the outer block", x, FLOW, 2,
            Programs.loop(0), Programs.when(1), Programs.set(1, 1), Programs.END, Programs.END);
        Programs.checks("from the inner block", x, FLOW, 2,
            Programs.when(1), Programs.loop(0), Programs.set(1, 1), Programs.END, Programs.END);
    }

    private static void pcInElse() {
        DecentLabels x = secrets();
        Programs.checks("still secret", x, FLOW, 2,
            Programs.when(0), Programs.ELSE, Programs.set(1, 1), Programs.END);
        Programs.checks("still secret after a block", x, FLOW, 4,
            Programs.when(0), Programs.ELSE, Programs.when(1), Programs.END, Programs.set(1, 1), Programs.END);
        Programs.passes("still public", x, Programs.when(1), Programs.ELSE, Programs.set(1, 1), Programs.END);
        Programs.passes("secret to secret", x, Programs.when(0), Programs.ELSE, Programs.set(2, 1), Programs.END);
    }

    private static void pcComesBack() {
        DecentLabels x = secrets();
        Programs.passes("after the block", x, Programs.when(0), Programs.END, Programs.set(1, 1));
        Programs.passes("after the else", x, Programs.when(0), Programs.ELSE, Programs.END, Programs.set(1, 1));
        Programs.passes("after the inner block", x, Programs.when(1), Programs.loop(0), Programs.END,
            Programs.set(1, 1), Programs.END, Programs.out(0, 1));
        Programs.checks("only the inner block is closed", x, FLOW, 3, Programs.loop(0), Programs.when(1),
            Programs.END, Programs.set(1, 1), Programs.END);
        Programs.checks("only one of two secrets is closed", x, FLOW, 3, Programs.loop(0), Programs.when(2),
            Programs.END, Programs.set(1, 1), Programs.END);
    }

    // Block d is opened on v(d), which owner d keeps secret; v(8+d) keeps the secrets of owners 0 to d.
    private static void pcOfEightBlocks() {
        DecentLabels x = new DecentLabels(8, 64);
        int[][] rows = new int[32][];
        for (int d = 0; d < 8; d++) {
            x.setPolicy(d, d, 0);
            for (int owner = 0; owner <= d; owner++) {
                x.setPolicy(8 + d, owner, 0);
            }
            rows[2 * d] = d % 2 == 0 ? Programs.when(d) : Programs.loop(d);
            rows[2 * d + 1] = Programs.set(8 + d, 1);
            rows[30 - 2 * d] = Programs.set(8 + d, 1);
            rows[31 - 2 * d] = Programs.END;
        }
        Programs.passes("each block's secrets are kept", x, rows);
        for (int d = 0; d < 8; d++) {
            int[] fewer = d == 0 ? Programs.set(1, 1) : Programs.set(7 + d, 1);
            failsAt("after block " + d + " is opened", x, rows, 2 * d + 1, fewer);
            failsAt("before block " + d + " is closed", x, rows, 30 - 2 * d, fewer);
        }
    }

    private static void failsAt(String what, DecentLabels x, int[][] rows, int index, int[] statement) {
        int[][] changed = rows.clone();
        changed[index] = statement;
        Programs.checks(what, x, FLOW, index, changed);
    }

    // v0, v1 and v3 are read by (1,2), (2,3) and (1) beside owner 0; v2 takes what comes.
    private static DecentLabels shared() {
        DecentLabels x = new DecentLabels(4, 64);
        x.setPolicy(0, 0, 0b0110);
        x.setPolicy(1, 0, 0b1100);
        x.setPolicy(3, 0, 0b0010);
        return x;
    }

    private static void joinsMasks() {
        DecentLabels x = shared();
        int[] sum = Programs.calc(DecentLabels.K_ADD, 2, 0, 1);
        for (int mask = 0; mask < 16; mask++) {
            x.setPolicy(2, 0, mask);
            boolean both = (mask & 0b1010) == 0;
            boolean all = (mask & 0b1110) == 0;
            Programs.checks("b and c into " + mask, x, both ? 0 : FLOW, 0, sum);
            Programs.checks("pc and b into " + mask, x, both ? 0 : FLOW, both ? 0 : 1,
                inBlock(Programs.when(1), Programs.move(2, 0)));
            Programs.checks("pc, b and c into " + mask, x, all ? 0 : FLOW, all ? 0 : 1,
                inBlock(Programs.when(3), sum));
            Programs.checks("pc of two blocks into " + mask, x, both ? 0 : FLOW, both ? 0 : 2,
                Programs.when(0), Programs.loop(1), Programs.set(2, 1), Programs.END, Programs.END);
        }
    }

    private static void joinsOwners() {
        DecentLabels x = new DecentLabels(4, 64);
        x.setPolicy(0, 0, 0b0100);
        x.setPolicy(1, 1, 0b1000);
        x.setPolicy(3, 2, 0b0001);
        int[] sum = Programs.calc(DecentLabels.K_ADD, 2, 0, 1);
        int[][] inside = inBlock(Programs.when(3), sum);
        Programs.checks("to a public one", x, FLOW, 0, sum);
        x.setPolicy(2, 0, 0b0100);
        Programs.checks("c's owner is left out", x, FLOW, 0, sum);
        x.setPolicy(2, 0, -1);
        x.setPolicy(2, 1, 0b1000);
        Programs.checks("b's owner is left out", x, FLOW, 0, sum);
        x.setPolicy(2, 0, 0b0100);
        Programs.passes("both owners, each with its own mask", x, sum);
        Programs.checks("the pc's owner is left out", x, FLOW, 1, inside);
        x.setPolicy(2, 2, 0b0001);
        Programs.passes("three owners, each with its own mask", x, inside);
        x.setPolicy(2, 0, 0b1100);
        Programs.checks("b's mask is not kept", x, FLOW, 1, inside);
        x.setPolicy(2, 0, 0b0100);
        x.setPolicy(2, 1, 0b1100);
        Programs.checks("c's mask is not kept", x, FLOW, 1, inside);
    }

    private static void emptyFlows() {
        DecentLabels x = new DecentLabels(3, 8);
        for (int mask = -1; mask < 8; mask++) {
            for (int owner = 0; owner < 3; owner++) {
                x.setPolicy(1, owner, mask);
                x.setPolicy(16, owner, mask);
                Programs.passes("to any label", x, Programs.set(1, 1), Programs.move(1, 0),
                    Programs.calc(DecentLabels.K_SUB, 1, 0, 2), Programs.out(0, 0), Programs.declassify(1, 0));
            }
        }
    }

    private static void policyIsNeeded() {
        for (int owner = 0; owner < 3; owner++) {
            for (int mask = 0; mask < 8; mask++) {
                DecentLabels x = new DecentLabels(3, 8);
                x.setPolicy(0, owner, mask);
                Programs.checks("to the empty label", x, FLOW, 0, Programs.move(1, 0));
                Programs.checks("to the empty label, from pc", x, FLOW, 1,
                    inBlock(Programs.when(0), Programs.set(1, 1)));
                x.setActsFor(1, 0, true);
                x.setActsFor(0, 2, true);
                x.setActsFor(2, 1, true);
                Programs.checks("even if all act for all", x, FLOW, 0, Programs.move(1, 0));
            }
        }
    }

    private static void everyOwnerCounts() {
        for (int owner = 0; owner < 8; owner++) {
            DecentLabels x = new DecentLabels(8, 64);
            for (int other = 0; other < 8; other++) {
                x.setPolicy(0, other, 0);
                x.setPolicy(1, other, other == owner ? -1 : 0);
                x.setPolicy(19, other, other == owner ? -1 : 0);
            }
            Programs.checks("set without owner " + owner, x, FLOW, 1,
                inBlock(Programs.when(0), Programs.set(1, 0)));
            Programs.checks("move without owner " + owner, x, FLOW, 0, Programs.move(1, 0));
            Programs.checks("out without owner " + owner, x, FLOW, 0, Programs.out(3, 0));
            x.setPolicy(1, owner, 0);
            x.setPolicy(19, owner, 0);
            Programs.passes("all eight owners", x, Programs.when(0), Programs.set(1, 0), Programs.END,
                Programs.move(1, 0), Programs.out(3, 0));
        }
    }

    private static void ownersMustActFor() {
        for (int other = 1; other < 8; other++) {
            DecentLabels x = new DecentLabels(8, 8);
            int[] move = Programs.move(1, 0);
            x.setPolicy(0, 0, 0);
            x.setPolicy(1, other, 0);
            Programs.checks("a stranger's policy", x, FLOW, 0, move);
            x.setActsFor(0, other, true);
            Programs.checks("an inferior's policy", x, FLOW, 0, move);
            x.setActsFor(other, 0, true);
            Programs.passes("each for the other", x, move);
            x.setActsFor(0, other, false);
            Programs.passes("a superior's policy", x, move);
            int middle = other == 7 ? 1 : other + 1;
            x.setActsFor(other, 0, false);
            x.setActsFor(other, middle, true);
            Programs.checks("half a chain", x, FLOW, 0, move);
            x.setActsFor(middle, 0, true);
            Programs.passes("a superior's policy, by a chain", x, move);
        }
        DecentLabels x = new DecentLabels(3, 8);
        x.setPolicy(0, 0, 0b010);
        x.setPolicy(1, 1, 0);
        Programs.checks("a reader's policy is not the owner's", x, FLOW, 0, Programs.move(1, 0));
    }

    private static void readersMustBeFewer() {
        DecentLabels x = new DecentLabels(4, 8);
        int[] move = Programs.move(1, 0);
        // The owner, 0, reads with or without its bit.
        for (int from = 0; from < 16; from++) {
            for (int to = 0; to < 16; to++) {
                x.setPolicy(0, 0, from);
                x.setPolicy(1, 0, to);
                boolean fewer = (to & ~from & 0b1110) == 0;
                Programs.checks("(0:" + from + ") to (0:" + to + ")", x, fewer ? 0 : FLOW, 0, move);
            }
        }
        x.setPolicy(0, 0, 0b0010);
        x.setPolicy(1, 0, 0b0110);
        x.setActsFor(2, 1, true);
        Programs.passes("the new reader acts for a reader", x, move);
        x.setActsFor(2, 1, false);
        x.setActsFor(2, 0, true);
        Programs.passes("the new reader acts for the owner", x, move);
        x.setActsFor(2, 0, false);
        x.setActsFor(1, 2, true);
        Programs.checks("a reader acts for the new reader", x, FLOW, 0, move);
        x.setPolicy(1, 0, 0b0010);
        x.setActsFor(3, 2, true);
        Programs.passes("fewer again", x, move);
        x.setPolicy(0, 0, 0b0100);
        x.setPolicy(1, 0, 0b1010);
        Programs.passes("all that act for the old reader", x, move);
        x.setActsFor(3, 2, false);
        Programs.checks("one of them no more", x, FLOW, 0, move);
    }

    private static void onePolicyMustDo() {
        DecentLabels x = new DecentLabels(4, 8);
        x.setPolicy(0, 0, 0b0010);
        x.setPolicy(1, 0, 0b0110);
        x.setPolicy(1, 2, 0b0010);
        Programs.checks("the narrow one's owner does not act for 0", x, FLOW, 0, Programs.move(1, 0));
        x.setActsFor(2, 0, true);
        Programs.passes("the narrow one's owner acts for 0", x, Programs.move(1, 0));
        // Owners 2 and 3 act for 0; 1 reads both policies of v1, and each has a reader too many.
        x = new DecentLabels(6, 8);
        x.setActsFor(2, 0, true);
        x.setActsFor(3, 0, true);
        x.setPolicy(0, 0, 0b000010);
        x.setPolicy(1, 2, 0b010010);
        x.setPolicy(1, 3, 0b100010);
        Programs.checks("neither will do alone", x, FLOW, 0, Programs.move(1, 0));
        x.setPolicy(1, 3, 0b000010);
        Programs.passes("the second will do", x, Programs.move(1, 0));
        x.setPolicy(1, 2, 0b000010);
        x.setPolicy(1, 3, 0b100010);
        Programs.passes("the first will do", x, Programs.move(1, 0));
    }

    private static void hierarchyOfTheMoment() {
        DecentLabels x = new DecentLabels(3, 8);
        x.setActsFor(2, 1, true);
        x.setActsFor(1, 0, true);
        x.setPolicy(0, 0, 0);
        x.setPolicy(1, 2, 0);
        Programs.passes("with the chain", x, Programs.move(1, 0));
        x.setActsFor(2, 1, false);
        Due.is("without its first edge", x.check(), FLOW * 256);
        x.setActsFor(2, 1, true);
        Due.is("with it again", x.check(), 0);
        x.setActsFor(1, 0, false);
        Due.is("without its second edge", x.check(), FLOW * 256);
        x.setActsFor(2, 0, true);
        Due.is("with another edge", x.check(), 0);
    }
}
