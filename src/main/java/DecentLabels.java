/**
 * Decides whether a small program keeps to its information-flow labels, and runs it.
 *
 * A set of principals is an int whose bit p stands for principal p. A label is a row of
 * MAX_PRINCIPALS cells, one for each owner: the owner's reader mask, or NO_POLICY.
 */
public final class DecentLabels {
    public static final int VARS = 16;
    public static final int CHANNELS = 4;
    public static final int TARGET_CHANNEL = 16;
    public static final int TARGETS = 20;
    public static final int OUT_CAP = 16;
    public static final int MAX_DEPTH = 8;
    public static final int K_SET = 1;
    public static final int K_MOVE = 2;
    public static final int K_ADD = 3;
    public static final int K_SUB = 4;
    public static final int K_MUL = 5;
    public static final int K_LESS = 6;
    public static final int K_EQUAL = 7;
    public static final int K_IF = 8;
    public static final int K_ELSE = 9;
    public static final int K_END = 10;
    public static final int K_WHILE = 11;
    public static final int K_OUT = 12;
    public static final int K_DECLASSIFY = 13;
    public static final int ERR_STRUCTURE = 1;
    public static final int ERR_DEPTH = 2;
    public static final int ERR_FLOW = 3;
    public static final int ERR_AUTHORITY = 4;
    public static final int ERR_UNCLOSED = 5;
    public static final int ST_UNCHECKED = 0;
    public static final int ST_READY = 1;
    public static final int ST_RUNNING = 2;
    public static final int ST_HALTED = 3;
    public static final int SLOT_INPUT = 16;
    public static final int SLOT_AUTHORITY = 32;
    public static final int SLOT_LENGTH = 33;
    public static final int SLOT_POSITION = 34;
    public static final int SLOT_STATUS = 35;
    public static final int SLOT_CHECK = 36;

    private static final int MIN_PRINCIPALS = 2;
    private static final int MAX_PRINCIPALS = 8;
    private static final int MIN_STATEMENTS = 8;
    private static final int MAX_STATEMENTS = 64;
    private static final int MAX_STEPS = 1000;

    private static final int FIELDS = 4;
    private static final int FIELD_A = 1;
    private static final int FIELD_B = 2;
    private static final int FIELD_C = 3;

    // TARGETS rows, MAX_DEPTH + 1 rows, MAX_STATEMENTS rows and CHANNELS rows of cells.
    private static final int POLICY_CELLS = 160;
    private static final int PC_CELLS = 72;
    private static final int STATEMENT_CELLS = 256;
    private static final int OUT_CELLS = 64;

    // All bits set, so that & joins two cells of an owner whether or not they hold a policy.
    private static final int NO_POLICY = -1;
    private static final int OUT_OF_RANGE = -2;
    private static final int NO_AUTHORITY = 0;
    private static final int NO_ELSE = -1;
    private static final int NOT_CHECKED = -1;
    private static final int PASSED = 0;
    private static final int ERROR_UNIT = 256;

    private final int principals;
    private final int capacity;

    // Both by the principal that is acted for; the second is the closure of the first.
    private final int[] directActors = new int[MAX_PRINCIPALS];
    private final int[] actors = new int[MAX_PRINCIPALS];

    private final int[] policies = new int[POLICY_CELLS];
    private int authority;

    private final int[] statements = new int[STATEMENT_CELLS];
    private int length;

    // Filled by a check, and only read while its answer of 0 stands.
    private final int[] jumps = new int[MAX_STATEMENTS];

    // Row d is the pc inside d open blocks, so that closing a block brings its old pc back.
    private final int[] pcLabels = new int[PC_CELLS];
    private final int[] openings = new int[MAX_DEPTH];
    private final int[] elses = new int[MAX_DEPTH];
    private int openBlocks;
    // The label that is about to flow somewhere; no method may make a new array for it.
    private final int[] source = new int[MAX_PRINCIPALS];

    private final int[] inputs = new int[VARS];
    private final int[] variables = new int[VARS];
    private final int[] outValues = new int[OUT_CELLS];
    private final int[] outCounts = new int[CHANNELS];
    private int position;
    private int status;
    private int lastCheck;

    public DecentLabels(int principals, int maxStatements) {
        this.principals = clamp(principals, MIN_PRINCIPALS, MAX_PRINCIPALS);
        this.capacity = clamp(maxStatements, MIN_STATEMENTS, MAX_STATEMENTS);
        for (int i = 0; i < POLICY_CELLS; i++) {
            policies[i] = NO_POLICY;
        }
        closeActors();
        reset();
    }

    public boolean setActsFor(int a, int b, boolean on) {
        if (!isPrincipal(a) || !isPrincipal(b) || a == b) {
            return false;
        }
        if (on) {
            directActors[b] |= 1 << a;
        } else {
            directActors[b] &= ~(1 << a);
        }
        closeActors();
        reset();
        return true;
    }

    public boolean actsFor(int a, int b) {
        return isPrincipal(a) && isPrincipal(b) && contains(actors[b], a);
    }

    public boolean setPolicy(int target, int owner, int readers) {
        if (!isTarget(target) || !isPrincipal(owner)) {
            return false;
        }
        if (readers != NO_POLICY && !isPrincipalSet(readers)) {
            return false;
        }
        policies[cell(target, owner)] = readers;
        reset();
        return true;
    }

    public int getPolicy(int target, int owner) {
        if (!isTarget(target) || !isPrincipal(owner)) {
            return OUT_OF_RANGE;
        }
        return policies[cell(target, owner)];
    }

    public boolean canRead(int p, int target) {
        if (!isPrincipal(p) || !isTarget(target)) {
            return false;
        }
        for (int owner = 0; owner < principals; owner++) {
            int readers = policies[cell(target, owner)];
            if (readers == NO_POLICY) {
                continue;
            }
            int effective = effectiveReaders(owner, readers);
            if (!contains(effective, p)) {
                return false;
            }
        }
        return true;
    }

    public boolean setAuthority(int mask) {
        if (!isPrincipalSet(mask)) {
            return false;
        }
        authority = mask;
        reset();
        return true;
    }

    public boolean setInput(int v, int value) {
        if (!isVariable(v)) {
            return false;
        }
        inputs[v] = value;
        return true;
    }

    public int addStmt(int kind, int a, int b, int c) {
        if (length >= capacity || !operandsFit(kind, a, b, c)) {
            return -1;
        }
        int used = operandCount(kind);
        int at = length * FIELDS;
        statements[at] = kind;
        statements[at + FIELD_A] = used >= FIELD_A ? a : 0;
        statements[at + FIELD_B] = used >= FIELD_B ? b : 0;
        statements[at + FIELD_C] = used >= FIELD_C ? c : 0;
        length++;
        reset();
        return length - 1;
    }

    public void clearProgram() {
        length = 0;
        reset();
    }

    public int getStmt(int index, int field) {
        if (index < 0 || index >= length || field < 0 || field >= FIELDS) {
            return -1;
        }
        return statements[index * FIELDS + field];
    }

    public int check() {
        reset();
        lastCheck = firstError();
        if (lastCheck == PASSED) {
            status = ST_READY;
        }
        return lastCheck;
    }

    public boolean start() {
        if (status == ST_UNCHECKED) {
            return false;
        }
        for (int v = 0; v < VARS; v++) {
            variables[v] = inputs[v];
        }
        emptyChannels();
        position = 0;
        status = ST_RUNNING;
        return true;
    }

    public int run(int steps) {
        if (status != ST_RUNNING) {
            return status;
        }
        int limit = clamp(steps, 1, MAX_STEPS);
        for (int done = 0; done < limit && position < length; done++) {
            step();
        }
        // Asked once more after the last step: the step that reaches the end also halts.
        if (position >= length) {
            status = ST_HALTED;
        }
        return status;
    }

    public int getValue(int slot) {
        if (isVariable(slot)) {
            return variables[slot];
        }
        if (slot >= SLOT_INPUT && slot < SLOT_INPUT + VARS) {
            return inputs[slot - SLOT_INPUT];
        }
        switch (slot) {
            case SLOT_AUTHORITY:
                return authority;
            case SLOT_LENGTH:
                return length;
            case SLOT_POSITION:
                return position;
            case SLOT_STATUS:
                return status;
            case SLOT_CHECK:
                return lastCheck;
            default:
                return 0;
        }
    }

    public int outCount(int c) {
        return isChannel(c) ? outCounts[c] : -1;
    }

    public int outValue(int c, int i) {
        if (!isChannel(c) || i < 0 || i >= outCounts[c]) {
            return 0;
        }
        return outValues[c * OUT_CAP + i];
    }

    private static int clamp(int value, int least, int most) {
        if (value < least) {
            return least;
        }
        return value > most ? most : value;
    }

    private static boolean contains(int set, int p) {
        return (set & 1 << p) != 0;
    }

    private static int cell(int row, int owner) {
        return row * MAX_PRINCIPALS + owner;
    }

    private static boolean isTarget(int target) {
        return target >= 0 && target < TARGETS;
    }

    private static boolean isVariable(int v) {
        return v >= 0 && v < VARS;
    }

    private static boolean isChannel(int c) {
        return c >= 0 && c < CHANNELS;
    }

    private boolean isPrincipal(int p) {
        return p >= 0 && p < principals;
    }

    private boolean isPrincipalSet(int set) {
        return set >= 0 && set < 1 << principals;
    }

    private static boolean operandsFit(int kind, int a, int b, int c) {
        switch (kind) {
            case K_SET:
            case K_IF:
            case K_WHILE:
                return isVariable(a);
            case K_MOVE:
            case K_DECLASSIFY:
                return isVariable(a) && isVariable(b);
            case K_ADD:
            case K_SUB:
            case K_MUL:
            case K_LESS:
            case K_EQUAL:
                return isVariable(a) && isVariable(b) && isVariable(c);
            case K_OUT:
                return isChannel(a) && isVariable(b);
            case K_ELSE:
            case K_END:
                return true;
            default:
                return false;
        }
    }

    private static int operandCount(int kind) {
        switch (kind) {
            case K_ELSE:
            case K_END:
                return 0;
            case K_IF:
            case K_WHILE:
                return 1;
            case K_SET:
            case K_MOVE:
            case K_OUT:
            case K_DECLASSIFY:
                return 2;
            default:
                return 3;
        }
    }

    private void reset() {
        status = ST_UNCHECKED;
        position = 0;
        emptyChannels();
        lastCheck = NOT_CHECKED;
    }

    private void emptyChannels() {
        for (int c = 0; c < CHANNELS; c++) {
            outCounts[c] = 0;
        }
    }

    private void closeActors() {
        for (int p = 0; p < principals; p++) {
            actors[p] = directActors[p] | 1 << p;
        }
        // The middle principal must be the outer loop: one pass then finds chains of any length.
        for (int middle = 0; middle < principals; middle++) {
            for (int p = 0; p < principals; p++) {
                if (contains(actors[p], middle)) {
                    actors[p] |= actors[middle];
                }
            }
        }
    }

    private int effectiveReaders(int owner, int readers) {
        int effective = actors[owner];
        // The bit is tested in place: a check stands six calls deep here, the most there may be.
        for (int r = 0; r < principals; r++) {
            if ((readers & 1 << r) != 0) {
                effective |= actors[r];
            }
        }
        return effective;
    }

    private int firstError() {
        openBlocks = 0;
        for (int owner = 0; owner < MAX_PRINCIPALS; owner++) {
            pcLabels[owner] = NO_POLICY;
        }
        for (int i = 0; i < length; i++) {
            int error = statementError(i);
            if (error != PASSED) {
                return error * ERROR_UNIT + i;
            }
        }
        return openBlocks == 0 ? PASSED : ERR_UNCLOSED * ERROR_UNIT + length;
    }

    private int statementError(int index) {
        int at = index * FIELDS;
        int a = statements[at + FIELD_A];
        int b = statements[at + FIELD_B];
        switch (statements[at]) {
            case K_IF:
            case K_WHILE:
                return openBlock(index, a);
            case K_ELSE:
                return splitBlock(index);
            case K_END:
                return closeBlock(index);
            case K_SET:
                takePc();
                return flowsTo(a, NO_AUTHORITY) ? PASSED : ERR_FLOW;
            case K_MOVE:
                takePc();
                joinTarget(b);
                return flowsTo(a, NO_AUTHORITY) ? PASSED : ERR_FLOW;
            case K_OUT:
                takePc();
                joinTarget(b);
                return flowsTo(TARGET_CHANNEL + a, NO_AUTHORITY) ? PASSED : ERR_FLOW;
            case K_DECLASSIFY:
                takePc();
                if (!flowsTo(a, NO_AUTHORITY)) {
                    return ERR_FLOW;
                }
                takeTarget(b);
                return flowsTo(a, authority) ? PASSED : ERR_AUTHORITY;
            default:
                takePc();
                joinTarget(b);
                joinTarget(statements[at + FIELD_C]);
                return flowsTo(a, NO_AUTHORITY) ? PASSED : ERR_FLOW;
        }
    }

    private int openBlock(int index, int condition) {
        if (openBlocks >= MAX_DEPTH) {
            return ERR_DEPTH;
        }
        takePc();
        joinTarget(condition);
        openings[openBlocks] = index;
        elses[openBlocks] = NO_ELSE;
        openBlocks++;
        for (int owner = 0; owner < MAX_PRINCIPALS; owner++) {
            pcLabels[cell(openBlocks, owner)] = source[owner];
        }
        return PASSED;
    }

    private int splitBlock(int index) {
        if (openBlocks == 0) {
            return ERR_STRUCTURE;
        }
        int innermost = openBlocks - 1;
        if (isWhile(openings[innermost]) || elses[innermost] != NO_ELSE) {
            return ERR_STRUCTURE;
        }
        elses[innermost] = index;
        return PASSED;
    }

    private int closeBlock(int index) {
        if (openBlocks == 0) {
            return ERR_STRUCTURE;
        }
        openBlocks--;
        int opening = openings[openBlocks];
        int middle = elses[openBlocks];
        int after = index + 1;
        jumps[opening] = after;
        jumps[index] = isWhile(opening) ? opening : after;
        if (middle != NO_ELSE) {
            jumps[opening] = middle + 1;
            jumps[middle] = after;
        }
        return PASSED;
    }

    private boolean isWhile(int index) {
        return statements[index * FIELDS] == K_WHILE;
    }

    private void takePc() {
        for (int owner = 0; owner < MAX_PRINCIPALS; owner++) {
            source[owner] = pcLabels[cell(openBlocks, owner)];
        }
    }

    private void takeTarget(int target) {
        for (int owner = 0; owner < MAX_PRINCIPALS; owner++) {
            source[owner] = policies[cell(target, owner)];
        }
    }

    private void joinTarget(int target) {
        for (int owner = 0; owner < MAX_PRINCIPALS; owner++) {
            source[owner] &= policies[cell(target, owner)];
        }
    }

    // Plain FLOW is flow with an authority that nobody holds.
    private boolean flowsTo(int target, int droppers) {
        for (int owner = 0; owner < principals; owner++) {
            boolean binding = source[owner] != NO_POLICY && (actors[owner] & droppers) == 0;
            if (binding && !keepsPolicy(target, owner, source[owner])) {
                return false;
            }
        }
        return true;
    }

    private boolean keepsPolicy(int target, int owner, int readers) {
        int allowed = effectiveReaders(owner, readers);
        for (int keeper = 0; keeper < principals; keeper++) {
            int kept = policies[cell(target, keeper)];
            if (kept == NO_POLICY || !contains(actors[owner], keeper)) {
                continue;
            }
            int effective = effectiveReaders(keeper, kept);
            if ((effective & ~allowed) == 0) {
                return true;
            }
        }
        return false;
    }

    private void step() {
        int at = position * FIELDS;
        int kind = statements[at];
        int a = statements[at + FIELD_A];
        int b = statements[at + FIELD_B];
        int c = statements[at + FIELD_C];
        switch (kind) {
            case K_IF:
            case K_WHILE:
                position = variables[a] != 0 ? position + 1 : jumps[position];
                break;
            case K_ELSE:
            case K_END:
                position = jumps[position];
                break;
            case K_OUT:
                append(a, variables[b]);
                position++;
                break;
            default:
                variables[a] = assignedValue(kind, b, c);
                position++;
                break;
        }
    }

    private int assignedValue(int kind, int b, int c) {
        switch (kind) {
            case K_SET:
                return b;
            case K_ADD:
                return variables[b] + variables[c];
            case K_SUB:
                return variables[b] - variables[c];
            case K_MUL:
                return variables[b] * variables[c];
            case K_LESS:
                return variables[b] < variables[c] ? 1 : 0;
            case K_EQUAL:
                return variables[b] == variables[c] ? 1 : 0;
            default:
                return variables[b];
        }
    }

    private void append(int channel, int value) {
        int count = outCounts[channel];
        if (count >= OUT_CAP) {
            return;
        }
        outValues[channel * OUT_CAP + count] = value;
        outCounts[channel] = count + 1;
    }
}
