/** Promise 12: check, and the check rules. */
public final class P12CheckTest {
    private static final int STRUCTURE = DecentLabels.ERR_STRUCTURE;
    private static final int DEPTH = DecentLabels.ERR_DEPTH;
    private static final int FLOW = DecentLabels.ERR_FLOW;
    private static final int AUTHORITY = DecentLabels.ERR_AUTHORITY;
    private static final int UNCLOSED = DecentLabels.ERR_UNCLOSED;

    public static void main(String[] args) {
        structure();
        depth();
        explicitFlows();
        implicitFlows();
        pcComesBack();
        joins();
        flowsThroughTheHierarchy();
        aPolicyIsNeeded();
        everyOwnerCounts();
        declassifies();
        authorityIsForDeclassifyAlone();
        firstFailureCounts();
        resetsAndKeeps();
        Due.end("P12CheckTest");
    }

    private static void structure() {
        DecentLabels x = new DecentLabels(2, 64);
        Programs.passes("empty program", x);
        Programs.checks("lone else", x, STRUCTURE, 0, Programs.ELSE);
        Programs.checks("lone end", x, STRUCTURE, 0, Programs.END);
        Programs.checks("end too many", x, STRUCTURE, 2, Programs.when(0), Programs.END, Programs.END);
        Programs.checks("else after end", x, STRUCTURE, 2, Programs.when(0), Programs.END, Programs.ELSE);
        Programs.checks("else in while", x, STRUCTURE, 1, Programs.loop(0), Programs.ELSE, Programs.END);
        Programs.checks("while inside if", x, STRUCTURE, 2,
            Programs.when(0), Programs.loop(0), Programs.ELSE, Programs.END, Programs.END);
        Programs.checks("second else", x, STRUCTURE, 2,
            Programs.when(0), Programs.ELSE, Programs.ELSE, Programs.END);
        Programs.passes("else of the outer if", x, Programs.when(0), Programs.when(1), Programs.ELSE,
            Programs.END, Programs.ELSE, Programs.END);
        Programs.passes("if after if with else", x, Programs.when(0), Programs.ELSE, Programs.END,
            Programs.when(0), Programs.ELSE, Programs.END);
        Programs.passes("if in the place of a while", x, Programs.loop(0), Programs.END,
            Programs.when(0), Programs.ELSE, Programs.END);
        Programs.checks("unclosed if", x, UNCLOSED, 1, Programs.when(0));
        Programs.checks("unclosed else", x, UNCLOSED, 2, Programs.when(0), Programs.ELSE);
        Programs.checks("unclosed while", x, UNCLOSED, 3,
            Programs.loop(0), Programs.when(1), Programs.END);
    }

    private static void depth() {
        DecentLabels x = new DecentLabels(2, 64);
        int[][] rows = new int[64][];
        for (int i = 0; i < 8; i++) {
            rows[i] = i % 2 == 0 ? Programs.when(i) : Programs.loop(i);
        }
        for (int i = 8; i < 16; i++) {
            rows[i] = Programs.END;
        }
        for (int i = 16; i < 64; i++) {
            rows[i] = i % 2 == 0 ? Programs.when(0) : Programs.END;
        }
        Programs.passes("eight deep, many after another", x, rows);
        rows[8] = Programs.loop(0);
        Programs.checks("while nine deep", x, DEPTH, 8, rows);
        rows[8] = Programs.when(0);
        Programs.checks("if nine deep", x, DEPTH, 8, rows);
        rows[8] = Programs.END;
        rows[9] = Programs.when(0);
        rows[10] = Programs.when(0);
        Programs.checks("nine deep again", x, DEPTH, 10, rows);
    }

    // v0 is secret of owner 0, v1 is public, v2 as secret as v0; channel 3 as v0, channel 0 public.
    private static DecentLabels secrets() {
        DecentLabels x = new DecentLabels(3, 64);
        x.setPolicy(0, 0, 2);
        x.setPolicy(2, 0, 2);
        x.setPolicy(19, 0, 2);
        return x;
    }

    private static void explicitFlows() {
        DecentLabels x = secrets();
        Programs.passes("set", x, Programs.set(0, 1), Programs.set(1, 1));
        Programs.passes("up", x, Programs.move(0, 1));
        Programs.passes("across", x, Programs.move(0, 2), Programs.move(2, 0), Programs.move(0, 0));
        Programs.checks("down", x, FLOW, 0, Programs.move(1, 0));
        for (int kind = DecentLabels.K_ADD; kind <= DecentLabels.K_EQUAL; kind++) {
            Programs.passes("calc up", x, Programs.calc(kind, 0, 1, 2), Programs.calc(kind, 2, 0, 0));
            Programs.passes("calc public", x, Programs.calc(kind, 1, 3, 4));
            Programs.checks("calc down by b", x, FLOW, 0, Programs.calc(kind, 1, 0, 1));
            Programs.checks("calc down by c", x, FLOW, 0, Programs.calc(kind, 1, 1, 0));
        }
        Programs.passes("out", x, Programs.out(3, 0), Programs.out(3, 1), Programs.out(0, 1));
        Programs.checks("out down", x, FLOW, 0, Programs.out(0, 0));
        Programs.checks("out down", x, FLOW, 1, Programs.out(3, 0), Programs.out(2, 0));
        x.setPolicy(3, 0, 2);
        x.setPolicy(19, 0, -1);
        Programs.checks("the channel's label, not the variable's", x, FLOW, 0, Programs.out(3, 0));
    }

    private static void implicitFlows() {
        DecentLabels x = secrets();
        int[][] openings = {Programs.when(0), Programs.loop(0)};
        for (int[] opening : openings) {
            Programs.passes("secret inside", x, opening, Programs.set(2, 1), Programs.move(2, 1),
                Programs.calc(DecentLabels.K_ADD, 2, 1, 1), Programs.out(3, 1),
                Programs.declassify(2, 1), Programs.END);
            Programs.checks("set", x, FLOW, 1, opening, Programs.set(1, 1), Programs.END);
            Programs.checks("move", x, FLOW, 1, opening, Programs.move(1, 1), Programs.END);
            Programs.checks("calc", x, FLOW, 1, opening, Programs.calc(DecentLabels.K_MUL, 1, 1, 1), Programs.END);
            Programs.checks("out", x, FLOW, 1, opening, Programs.out(0, 1), Programs.END);
            Programs.checks("declassify", x, FLOW, 1, opening, Programs.declassify(1, 1), Programs.END);
            Programs.passes("nothing inside", x, opening, Programs.END);
        }
        Programs.checks("in the else too", x, FLOW, 2, Programs.when(0), Programs.ELSE, Programs.set(1, 1), Programs.END);
        Programs.checks("from the outer block", x, FLOW, 2,
            Programs.loop(0), Programs.when(1), Programs.set(1, 1), Programs.END, Programs.END);
    }

    private static void pcComesBack() {
        DecentLabels x = secrets();
        Programs.passes("after the block", x, Programs.when(0), Programs.ELSE, Programs.END, Programs.set(1, 1));
        Programs.passes("after the inner block", x, Programs.when(1), Programs.loop(0), Programs.END,
            Programs.set(1, 1), Programs.END, Programs.out(0, 1));
        Programs.checks("only the inner block is closed", x, FLOW, 3, Programs.loop(0), Programs.when(1),
            Programs.END, Programs.set(1, 1), Programs.END);
        Programs.checks("a failed check leaves no pc", x, FLOW, 1, Programs.loop(0), Programs.set(1, 1));
        Programs.passes("a failed check leaves no pc", x, Programs.set(1, 1), Programs.out(0, 1));
    }

    private static void joins() {
        DecentLabels x = new DecentLabels(4, 64);
        int[] sum = Programs.calc(DecentLabels.K_ADD, 2, 0, 1);
        x.setPolicy(0, 0, 0b0110);
        x.setPolicy(1, 0, 0b1100);
        x.setPolicy(2, 0, 0b0110);
        Programs.checks("readers of b alone", x, FLOW, 0, sum);
        x.setPolicy(2, 0, 0b1100);
        Programs.checks("readers of c alone", x, FLOW, 0, sum);
        x.setPolicy(2, 0, 0b0100);
        Programs.passes("readers of both", x, sum);
        x.setPolicy(1, 1, 0);
        Programs.checks("another owner", x, FLOW, 0, sum);
        x.setPolicy(2, 1, 0);
        Programs.passes("both owners", x, sum);
        x.setPolicy(3, 0, 0b0010);
        Programs.checks("readers of the pc", x, FLOW, 1, Programs.when(3), sum, Programs.END);
        x.setPolicy(2, 0, 0);
        Programs.passes("readers of all", x, Programs.when(3), sum, Programs.END);
        joinOfTwoIsNotEitherPolicy();
    }

    // One policy of the target must cover the joined policy; the target's own policies are not joined.
    private static void joinOfTwoIsNotEitherPolicy() {
        DecentLabels x = new DecentLabels(4, 8);
        x.setPolicy(0, 0, 0b0010);
        x.setPolicy(1, 0, 0b0110);
        x.setPolicy(1, 2, 0b0010);
        Programs.checks("an owner that does not act for it", x, FLOW, 0, Programs.move(1, 0));
        x.setActsFor(2, 0, true);
        Programs.passes("an owner that acts for it", x, Programs.move(1, 0));
    }

    private static void flowsThroughTheHierarchy() {
        DecentLabels x = new DecentLabels(4, 8);
        int[] move = Programs.move(1, 0);
        x.setPolicy(0, 0, 0b0010);
        x.setPolicy(1, 0, 0b0110);
        Programs.checks("a reader more", x, FLOW, 0, move);
        x.setActsFor(2, 1, true);
        Programs.passes("the reader acts for a reader", x, move);
        x.setActsFor(2, 1, false);
        x.setActsFor(2, 0, true);
        Programs.passes("the reader acts for the owner", x, move);
        x.setActsFor(2, 0, false);
        x.setActsFor(1, 2, true);
        Programs.checks("a reader acts for the new reader", x, FLOW, 0, move);

        x = new DecentLabels(4, 8);
        x.setPolicy(0, 0, 0);
        x.setPolicy(1, 3, 0);
        Programs.checks("a stranger's policy", x, FLOW, 0, move);
        x.setActsFor(0, 3, true);
        Programs.checks("an inferior's policy", x, FLOW, 0, move);
        x.setActsFor(0, 3, false);
        x.setActsFor(3, 2, true);
        x.setActsFor(2, 0, true);
        Programs.passes("a superior's policy, by a chain", x, move);
        x.setPolicy(1, 3, 0b0010);
        Programs.checks("a superior's policy, too wide", x, FLOW, 0, move);
        x.setPolicy(1, 3, 0b0001);
        Programs.passes("a superior's policy, the owner reads", x, move);
        x.setActsFor(2, 0, false);
        Programs.checks("the chain is cut", x, FLOW, 0, move);
    }

    private static void aPolicyIsNeeded() {
        DecentLabels x = new DecentLabels(3, 8);
        x.setPolicy(0, 0, 0b111);
        Programs.checks("all may read, yet the policy stays", x, FLOW, 0, Programs.move(1, 0));
        x.setPolicy(0, 0, 0b010);
        x.setPolicy(1, 1, 0);
        Programs.checks("a reader's own policy is not the owner's", x, FLOW, 0, Programs.move(1, 0));
        x.setPolicy(1, 0, 0b010);
        Programs.passes("the owner's policy beside it", x, Programs.move(1, 0));
    }

    private static void everyOwnerCounts() {
        for (int owner = 0; owner < 8; owner++) {
            DecentLabels x = new DecentLabels(8, 8);
            x.setPolicy(0, owner, 0);
            Programs.checks("set under owner " + owner, x, FLOW, 1,
                Programs.when(0), Programs.set(1, 0), Programs.END);
            Programs.checks("move from owner " + owner, x, FLOW, 0, Programs.move(1, 0));
            Programs.checks("out from owner " + owner, x, FLOW, 0, Programs.out(3, 0));
            x.setAuthority(255 - (1 << owner));
            Programs.checks("declassify from owner " + owner, x, AUTHORITY, 0, Programs.declassify(1, 0));
            x.setPolicy(1, owner, 0);
            x.setPolicy(19, owner, 0);
            Programs.passes("kept for owner " + owner, x, Programs.when(0), Programs.set(1, 0), Programs.END,
                Programs.move(1, 0), Programs.out(3, 0), Programs.declassify(1, 0));
            Programs.passes("the pc is empty again", x, Programs.set(2, 0));
        }
    }

    private static void authorityIsForDeclassifyAlone() {
        DecentLabels x = secrets();
        x.setAuthority(0b111);
        Programs.passes("declassify", x, Programs.declassify(1, 0));
        Programs.checks("set", x, FLOW, 1, Programs.when(0), Programs.set(1, 0), Programs.END);
        Programs.checks("move", x, FLOW, 0, Programs.move(1, 0));
        Programs.checks("out", x, FLOW, 0, Programs.out(0, 0));
        for (int kind = DecentLabels.K_ADD; kind <= DecentLabels.K_EQUAL; kind++) {
            Programs.checks("calc", x, FLOW, 0, Programs.calc(kind, 1, 0, 0));
        }
    }

    private static void declassifies() {
        DecentLabels x = new DecentLabels(4, 8);
        int[] drop = Programs.declassify(1, 0);
        x.setPolicy(0, 0, 0);
        Programs.checks("no authority", x, AUTHORITY, 0, drop);
        x.setAuthority(0b1110);
        Programs.checks("the others' authority", x, AUTHORITY, 0, drop);
        x.setAuthority(0b0001);
        Programs.passes("the owner's authority", x, drop);
        Programs.checks("authority is for declassify alone", x, FLOW, 0, Programs.move(1, 0));
        x.setPolicy(0, 2, 0);
        Programs.checks("not for the second owner", x, AUTHORITY, 0, drop);
        x.setPolicy(1, 2, 0);
        Programs.passes("the second owner's policy is kept", x, drop);
        x.setPolicy(1, 2, 1);
        Programs.checks("but not kept whole", x, AUTHORITY, 0, drop);
        x.setAuthority(0b1000);
        x.setActsFor(3, 2, true);
        Programs.checks("a superior of one", x, AUTHORITY, 0, drop);
        x.setActsFor(2, 0, true);
        Programs.passes("a superior of both, by chains", x, drop);
        x.setAuthority(0b0001);
        Programs.checks("an inferior has no authority over the superior", x, AUTHORITY, 0, drop);
        declassifiesUnderPc();
    }

    private static void declassifiesUnderPc() {
        DecentLabels x = new DecentLabels(3, 8);
        x.setPolicy(0, 0, 0);
        x.setAuthority(0b111);
        Programs.checks("authority does not loosen the pc", x, FLOW, 1,
            Programs.when(0), Programs.declassify(1, 0), Programs.END);
        x.setAuthority(0);
        Programs.checks("the pc is tested first", x, FLOW, 1,
            Programs.when(0), Programs.declassify(1, 0), Programs.END);
        x.setPolicy(2, 1, 0);
        x.setPolicy(3, 0, 0);
        Programs.checks("then the authority", x, AUTHORITY, 1,
            Programs.when(0), Programs.declassify(3, 2), Programs.END);
        x.setAuthority(0b010);
        Programs.passes("then the authority", x, Programs.when(0), Programs.declassify(3, 2), Programs.END);
        x.setAuthority(0);
        x.setPolicy(4, 0, 0b010);
        x.setPolicy(5, 0, 0b100);
        x.setPolicy(6, 0, 0b010);
        Programs.checks("pc alone is too narrow for v6", x, FLOW, 1,
            Programs.when(5), Programs.declassify(6, 4), Programs.END);
    }

    private static void firstFailureCounts() {
        DecentLabels x = secrets();
        Programs.checks("flow before structure", x, FLOW, 1, Programs.set(1, 0), Programs.move(1, 0), Programs.END);
        Programs.checks("structure before flow", x, STRUCTURE, 0, Programs.END, Programs.move(1, 0));
        Programs.checks("flow before unclosed", x, FLOW, 1, Programs.when(1), Programs.move(1, 0));
        Programs.checks("authority before flow", x, AUTHORITY, 0, Programs.declassify(1, 0), Programs.move(1, 0));
        int[][] rows = new int[64][];
        for (int i = 0; i < 64; i++) {
            rows[i] = Programs.set(1, i);
        }
        rows[63] = Programs.move(1, 0);
        Programs.checks("the last statement", x, FLOW, 63, rows);
        rows[63] = Programs.when(0);
        Programs.checks("unclosed at 64", x, UNCLOSED, 64, rows);
    }

    private static void resetsAndKeeps() {
        DecentLabels x = Samples.busy();
        Seen before = Seen.of(x);
        Due.is("check while running", x.check(), 0);
        Due.same("check while running", before.changedTo(Seen.of(x)),
            Samples.RESET_OF_BUSY.replace("value 35=0, value 36=-1", "value 35=1"));
        x = Samples.halted();
        Due.is("check when halted", x.check(), 0);
        Due.is("position", x.getValue(DecentLabels.SLOT_POSITION), 0);
        Due.is("status", x.getValue(DecentLabels.SLOT_STATUS), DecentLabels.ST_READY);
        Due.is("channel", x.outCount(0), 0);
        Due.is("variable", x.getValue(1), 7);
        x.setPolicy(1, 0, 0);
        before = Seen.of(x);
        Due.is("check that fails", x.check(), FLOW * 256 + 1);
        Due.same("check that fails", before.changedTo(Seen.of(x)), "value 36=" + (FLOW * 256 + 1));
        before = Seen.of(x);
        Due.is("check again", x.check(), FLOW * 256 + 1);
        Due.same("check again", before.changedTo(Seen.of(x)), "");
    }
}
