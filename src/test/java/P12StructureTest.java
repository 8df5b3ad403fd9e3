/** Promise 12: the structure tests of the check rules. */
public final class P12StructureTest {
    private static final int STRUCTURE = DecentLabels.ERR_STRUCTURE;
    private static final int DEPTH = DecentLabels.ERR_DEPTH;
    private static final int UNCLOSED = DecentLabels.ERR_UNCLOSED;
    private static final int[] ELSE = Programs.ELSE;
    private static final int[] END = Programs.END;
    private static final int[] IF = Programs.when(0);
    private static final int[] WHILE = Programs.loop(0);
    private static final int[] SET = Programs.set(1, 1);

    public static void main(String[] args) {
        Due.test("ELSE: ERR_STRUCTURE if there is no open block", P12StructureTest::loneElse);
        Due.test("ELSE: ERR_STRUCTURE if the innermost block is a WHILE", P12StructureTest::elseInWhile);
        Due.test("ELSE: ERR_STRUCTURE if it already has an ELSE", P12StructureTest::secondElse);
        Due.test("ELSE: otherwise the block is marked", P12StructureTest::rightElse);
        Due.test("END: ERR_STRUCTURE if there is no open block", P12StructureTest::loneEnd);
        Due.test("END: otherwise the block is popped", P12StructureTest::rightEnd);
        Due.test("8 blocks may be open", P12StructureTest::eightDeep);
        Due.test("IF and WHILE: ERR_DEPTH if 8 blocks are already open", P12StructureTest::nineDeep);
        Due.test("a closed block makes room for another", P12StructureTest::roomAgain);
        Due.test("an ELSE opens no block", P12StructureTest::elseIsNotDeeper);
        Due.test("if blocks remain open, ERR_UNCLOSED*256 + length", P12StructureTest::unclosed);
        Due.test("an empty program answers 0", P12StructureTest::emptyProgram);
        Due.end("P12StructureTest");
    }

    private static DecentLabels plain() {
        return new DecentLabels(2, 64);
    }

    private static void loneElse() {
        DecentLabels x = plain();
        Programs.checks("alone", x, STRUCTURE, 0, ELSE);
        Programs.checks("before a block", x, STRUCTURE, 0, ELSE, IF, END);
        Programs.checks("after a statement", x, STRUCTURE, 1, SET, ELSE);
        Programs.checks("after an IF", x, STRUCTURE, 2, IF, END, ELSE);
        Programs.checks("after a WHILE", x, STRUCTURE, 2, WHILE, END, ELSE);
        Programs.checks("after an IF with ELSE", x, STRUCTURE, 3, IF, ELSE, END, ELSE);
    }

    private static void elseInWhile() {
        DecentLabels x = plain();
        Programs.checks("a WHILE", x, STRUCTURE, 1, WHILE, ELSE, END);
        Programs.checks("a WHILE with a body", x, STRUCTURE, 2, WHILE, SET, ELSE, END);
        Programs.checks("a WHILE inside an IF", x, STRUCTURE, 2, IF, WHILE, ELSE, END, END);
        Programs.checks("a WHILE inside an ELSE", x, STRUCTURE, 3, IF, ELSE, WHILE, ELSE, END, END);
        Programs.checks("a WHILE around an IF", x, STRUCTURE, 3, WHILE, IF, END, ELSE, END);
        Programs.checks("a WHILE where an IF was", x, STRUCTURE, 3, IF, END, WHILE, ELSE, END);
    }

    private static void secondElse() {
        DecentLabels x = plain();
        Programs.checks("at once", x, STRUCTURE, 2, IF, ELSE, ELSE, END);
        Programs.checks("later", x, STRUCTURE, 4, IF, SET, ELSE, SET, ELSE, END);
        Programs.checks("after an inner block", x, STRUCTURE, 5, IF, ELSE, IF, ELSE, END, ELSE, END);
        Programs.checks("in the inner block", x, STRUCTURE, 3, IF, IF, ELSE, ELSE, END, END);
    }

    private static void rightElse() {
        DecentLabels x = plain();
        Programs.passes("an IF", x, IF, ELSE, END);
        Programs.passes("inner and outer", x, IF, IF, ELSE, END, ELSE, END);
        Programs.passes("an inner one in the else", x, IF, ELSE, IF, ELSE, END, END);
        Programs.passes("after a whole IF", x, IF, ELSE, END, IF, ELSE, END);
        Programs.passes("an IF where a WHILE was", x, WHILE, END, IF, ELSE, END);
        Programs.passes("an IF inside a WHILE", x, WHILE, IF, ELSE, END, END);
        Programs.passes("an IF around a WHILE", x, IF, WHILE, END, ELSE, WHILE, END, END);
    }

    private static void loneEnd() {
        DecentLabels x = plain();
        Programs.checks("alone", x, STRUCTURE, 0, END);
        Programs.checks("after a statement", x, STRUCTURE, 1, SET, END);
        Programs.checks("after an IF", x, STRUCTURE, 2, IF, END, END);
        Programs.checks("after a WHILE", x, STRUCTURE, 2, WHILE, END, END);
        Programs.checks("after an IF with ELSE", x, STRUCTURE, 3, IF, ELSE, END, END);
        Programs.checks("after two blocks", x, STRUCTURE, 4, IF, WHILE, END, END, END);
    }

    private static void rightEnd() {
        DecentLabels x = plain();
        Programs.passes("an IF", x, IF, END);
        Programs.passes("a WHILE", x, WHILE, END);
        Programs.passes("inner and outer", x, WHILE, IF, WHILE, END, END, END);
        Programs.passes("one after another", x, IF, END, WHILE, END, IF, END);
    }

    // Opens depth blocks, closes them, and has SETs behind; whiles has bit d set for a WHILE at depth d.
    private static int[][] nested(int depth, int whiles) {
        int[][] rows = new int[2 * depth + 1][];
        for (int i = 0; i < depth; i++) {
            rows[i] = (whiles >> i & 1) == 1 ? WHILE : IF;
            rows[depth + i] = END;
        }
        rows[2 * depth] = SET;
        return rows;
    }

    private static void eightDeep() {
        DecentLabels x = plain();
        for (int depth = 1; depth <= 8; depth++) {
            Programs.passes(depth + " IFs", x, nested(depth, 0));
            Programs.passes(depth + " WHILEs", x, nested(depth, 511));
            Programs.passes(depth + " of both", x, nested(depth, 0b10110101));
        }
    }

    private static void nineDeep() {
        DecentLabels x = plain();
        for (int whiles = 0; whiles < 512; whiles++) {
            Programs.checks("nine of kinds " + whiles, x, DEPTH, 8, nested(9, whiles));
        }
        Programs.checks("twelve", x, DEPTH, 8, nested(12, 0b101));
        Programs.checks("thirty", x, DEPTH, 8, nested(30, 0));
    }

    private static void roomAgain() {
        DecentLabels x = plain();
        int[][] rows = new int[64][];
        for (int i = 0; i < 64; i++) {
            rows[i] = i < 8 ? WHILE : i < 16 ? END : i % 2 == 0 ? IF : END;
        }
        Programs.passes("eight deep, then many one after another", x, rows);
        rows[8] = END;
        rows[9] = WHILE;
        rows[17] = END;
        rows[16] = END;
        Programs.passes("the eighth twice", x, rows);
        rows[10] = IF;
        Programs.checks("the ninth after the eighth twice", x, DEPTH, 10, rows);
    }

    private static void elseIsNotDeeper() {
        DecentLabels x = plain();
        int[][] rows = new int[24][];
        for (int i = 0; i < 8; i++) {
            rows[2 * i] = IF;
            rows[2 * i + 1] = ELSE;
            rows[16 + i] = END;
        }
        Programs.passes("eight IFs, each in the ELSE of the one before", x, rows);
        rows[16] = IF;
        Programs.checks("a ninth", x, DEPTH, 16, rows);
    }

    private static void unclosed() {
        DecentLabels x = plain();
        Programs.checks("an IF", x, UNCLOSED, 1, IF);
        Programs.checks("a WHILE", x, UNCLOSED, 1, WHILE);
        Programs.checks("an ELSE", x, UNCLOSED, 2, IF, ELSE);
        Programs.checks("the outer one", x, UNCLOSED, 3, WHILE, IF, END);
        Programs.checks("the last one", x, UNCLOSED, 3, IF, END, IF);
        for (int open = 1; open <= 8; open++) {
            int[][] rows = new int[open][];
            for (int i = 0; i < open; i++) {
                rows[i] = i % 2 == 0 ? IF : WHILE;
            }
            Programs.checks(open + " open blocks", x, UNCLOSED, open, rows);
        }
        for (int length = 1; length <= 64; length++) {
            int[][] rows = new int[length][];
            for (int i = 0; i < length; i++) {
                rows[i] = i == 0 ? IF : SET;
            }
            Programs.checks("length " + length, x, UNCLOSED, length, rows);
        }
    }

    private static void emptyProgram() {
        for (int principals = 2; principals <= 8; principals++) {
            Programs.passes("new", new DecentLabels(principals, 8));
        }
        DecentLabels x = plain();
        Programs.checks("not empty yet", x, UNCLOSED, 1, IF);
        Programs.passes("emptied", x);
    }
}
