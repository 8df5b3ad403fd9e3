import java.util.ArrayDeque;
import java.util.ArrayList;
import java.util.Deque;
import java.util.HashSet;
import java.util.List;
import java.util.Map;
import java.util.Set;
import java.util.TreeMap;

/**
 * The document read a second time, with the Java library and without thought for speed: labels are
 * maps, sets of principals are sets, and everything is worked out anew at every question.
 */
final class Model {
    private final int principals;
    private final int capacity;
    private final Set<List<Integer>> edges = new HashSet<>();
    private final List<Map<Integer, Integer>> labels = new ArrayList<>();
    private final List<int[]> program = new ArrayList<>();
    private final List<List<Integer>> channels = new ArrayList<>();
    private final int[] inputs = new int[16];
    private final int[] x = new int[16];
    private int authority = 0;
    private int position = 0;
    private int status = 0;
    private int lastCheck = -1;

    private record Block(int kind, Map<Integer, Integer> pcBefore, boolean[] hasElse) {
    }

    Model(int principals, int maxStatements) {
        this.principals = Math.max(2, Math.min(8, principals));
        this.capacity = Math.max(8, Math.min(64, maxStatements));
        for (int target = 0; target < 20; target++) {
            labels.add(new TreeMap<>());
        }
        for (int c = 0; c < 4; c++) {
            channels.add(new ArrayList<>());
        }
    }

    private static boolean in(int value, int bound) {
        return 0 <= value && value < bound;
    }

    private void reset() {
        status = 0;
        position = 0;
        channels.forEach(List::clear);
        lastCheck = -1;
    }

    boolean setActsFor(int a, int b, boolean on) {
        if (!in(a, principals) || !in(b, principals) || a == b) {
            return false;
        }
        if (on) {
            edges.add(List.of(a, b));
        } else {
            edges.remove(List.of(a, b));
        }
        reset();
        return true;
    }

    boolean actsFor(int a, int b) {
        return in(a, principals) && in(b, principals) && reaches(a, b, new HashSet<>());
    }

    private boolean reaches(int from, int to, Set<Integer> seen) {
        if (from == to) {
            return true;
        }
        seen.add(from);
        for (List<Integer> edge : edges) {
            int next = edge.get(1);
            if (edge.get(0) == from && !seen.contains(next) && reaches(next, to, seen)) {
                return true;
            }
        }
        return false;
    }

    boolean setPolicy(int target, int owner, int readers) {
        if (!in(target, 20) || !in(owner, principals) || readers < -1 || readers >= 1 << principals) {
            return false;
        }
        if (readers == -1) {
            labels.get(target).remove(owner);
        } else {
            labels.get(target).put(owner, readers);
        }
        reset();
        return true;
    }

    int getPolicy(int target, int owner) {
        if (!in(target, 20) || !in(owner, principals)) {
            return -2;
        }
        return labels.get(target).getOrDefault(owner, -1);
    }

    private Set<Integer> effective(int owner, int readers) {
        Set<Integer> found = new HashSet<>();
        for (int q = 0; q < principals; q++) {
            if (actsFor(q, owner)) {
                found.add(q);
            }
            for (int r = 0; r < principals; r++) {
                if ((readers & 1 << r) != 0 && actsFor(q, r)) {
                    found.add(q);
                }
            }
        }
        return found;
    }

    boolean canRead(int p, int target) {
        if (!in(p, principals) || !in(target, 20)) {
            return false;
        }
        return labels.get(target).entrySet().stream().allMatch(e -> effective(e.getKey(), e.getValue()).contains(p));
    }

    boolean setAuthority(int mask) {
        if (mask < 0 || mask >= 1 << principals) {
            return false;
        }
        authority = mask;
        reset();
        return true;
    }

    boolean setInput(int v, int value) {
        if (!in(v, 16)) {
            return false;
        }
        inputs[v] = value;
        return true;
    }

    // v: a variable, o: a channel, n: any number; a kind's operands in order.
    private static String shape(int kind) {
        return switch (kind) {
            case 1 -> "vn";
            case 2, 13 -> "vv";
            case 3, 4, 5, 6, 7 -> "vvv";
            case 8, 11 -> "v";
            case 9, 10 -> "";
            case 12 -> "ov";
            default -> null;
        };
    }

    int addStmt(int kind, int a, int b, int c) {
        String shape = shape(kind);
        if (shape == null || program.size() == capacity) {
            return -1;
        }
        int[] given = {a, b, c};
        int[] row = {kind, 0, 0, 0};
        for (int i = 0; i < shape.length(); i++) {
            char form = shape.charAt(i);
            if (form != 'n' && !in(given[i], form == 'v' ? 16 : 4)) {
                return -1;
            }
            row[i + 1] = given[i];
        }
        program.add(row);
        reset();
        return program.size() - 1;
    }

    void clearProgram() {
        program.clear();
        reset();
    }

    int getStmt(int index, int field) {
        return in(index, program.size()) && in(field, 4) ? program.get(index)[field] : -1;
    }

    private static Map<Integer, Integer> join(List<Map<Integer, Integer>> parts) {
        Map<Integer, Integer> joined = new TreeMap<>();
        for (Map<Integer, Integer> part : parts) {
            part.forEach((owner, readers) -> joined.merge(owner, readers, (r1, r2) -> r1 & r2));
        }
        return joined;
    }

    private boolean covered(int owner, int readers, Map<Integer, Integer> by) {
        Set<Integer> allowed = effective(owner, readers);
        return by.entrySet().stream().anyMatch(
            e -> actsFor(e.getKey(), owner) && allowed.containsAll(effective(e.getKey(), e.getValue())));
    }

    private boolean flows(Map<Integer, Integer> from, Map<Integer, Integer> to) {
        return from.entrySet().stream().allMatch(e -> covered(e.getKey(), e.getValue(), to));
    }

    private boolean mayDrop(int owner) {
        for (int a = 0; a < principals; a++) {
            if ((authority & 1 << a) != 0 && actsFor(a, owner)) {
                return true;
            }
        }
        return false;
    }

    private boolean flowsWithAuthority(Map<Integer, Integer> from, Map<Integer, Integer> to) {
        return from.entrySet().stream().allMatch(
            e -> mayDrop(e.getKey()) || covered(e.getKey(), e.getValue(), to));
    }

    int check() {
        reset();
        lastCheck = verdict();
        if (lastCheck == 0) {
            status = 1;
        }
        return lastCheck;
    }

    private int verdict() {
        Map<Integer, Integer> pc = new TreeMap<>();
        Deque<Block> open = new ArrayDeque<>();
        for (int i = 0; i < program.size(); i++) {
            int[] s = program.get(i);
            if (s[0] == 8 || s[0] == 11) {
                if (open.size() == 8) {
                    return 2 * 256 + i;
                }
                open.push(new Block(s[0], pc, new boolean[1]));
                pc = join(List.of(pc, labels.get(s[1])));
            } else if (s[0] == 9) {
                if (open.isEmpty() || open.peek().kind() == 11 || open.peek().hasElse()[0]) {
                    return 256 + i;
                }
                open.peek().hasElse()[0] = true;
            } else if (s[0] == 10) {
                if (open.isEmpty()) {
                    return 256 + i;
                }
                pc = open.pop().pcBefore();
            } else {
                int error = flowError(s, pc);
                if (error != 0) {
                    return error * 256 + i;
                }
            }
        }
        return open.isEmpty() ? 0 : 5 * 256 + program.size();
    }

    private int flowError(int[] s, Map<Integer, Integer> pc) {
        Map<Integer, Integer> to = labels.get(s[0] == 12 ? 16 + s[1] : s[1]);
        if (s[0] == 1) {
            return flows(pc, to) ? 0 : 3;
        }
        Map<Integer, Integer> b = labels.get(s[2]);
        if (s[0] == 13) {
            return !flows(pc, to) ? 3 : flowsWithAuthority(b, to) ? 0 : 4;
        }
        boolean two = s[0] >= 3 && s[0] <= 7;
        Map<Integer, Integer> from = two ? join(List.of(b, labels.get(s[3]), pc)) : join(List.of(b, pc));
        return flows(from, to) ? 0 : 3;
    }

    boolean start() {
        if (status == 0) {
            return false;
        }
        System.arraycopy(inputs, 0, x, 0, 16);
        channels.forEach(List::clear);
        position = 0;
        status = 2;
        return true;
    }

    int run(int steps) {
        int allowed = Math.max(1, Math.min(1000, steps));
        int executed = 0;
        while (status == 2) {
            if (position >= program.size()) {
                status = 3;
            } else if (executed == allowed) {
                break;
            } else {
                execute(program.get(position));
                executed++;
            }
        }
        return status;
    }

    private void execute(int[] s) {
        int q = position;
        position = q + 1;
        switch (s[0]) {
            case 1 -> x[s[1]] = s[2];
            case 2, 13 -> x[s[1]] = x[s[2]];
            case 3 -> x[s[1]] = (int) ((long) x[s[2]] + x[s[3]]);
            case 4 -> x[s[1]] = (int) ((long) x[s[2]] - x[s[3]]);
            case 5 -> x[s[1]] = (int) ((long) x[s[2]] * x[s[3]]);
            case 6 -> x[s[1]] = Integer.compare(x[s[2]], x[s[3]]) < 0 ? 1 : 0;
            case 7 -> x[s[1]] = Integer.compare(x[s[2]], x[s[3]]) == 0 ? 1 : 0;
            case 8 -> position = x[s[1]] != 0 ? q + 1 : elseOrEnd(q) + 1;
            case 9 -> position = elseOrEnd(q) + 1;
            case 10 -> position = program.get(opening(q))[0] == 11 ? opening(q) : q + 1;
            case 11 -> position = x[s[1]] != 0 ? q + 1 : elseOrEnd(q) + 1;
            default -> {
                if (channels.get(s[1]).size() < 16) {
                    channels.get(s[1]).add(x[s[2]]);
                }
            }
        }
    }

    // The next ELSE or END of the block that q stands in or opens.
    private int elseOrEnd(int q) {
        int inner = 0;
        int i = q + 1;
        while (inner > 0 || program.get(i)[0] != 9 && program.get(i)[0] != 10) {
            int kind = program.get(i)[0];
            inner += kind == 8 || kind == 11 ? 1 : kind == 10 ? -1 : 0;
            i++;
        }
        return i;
    }

    private int opening(int end) {
        int inner = 0;
        int i = end - 1;
        while (inner > 0 || program.get(i)[0] != 8 && program.get(i)[0] != 11) {
            int kind = program.get(i)[0];
            inner += kind == 10 ? 1 : kind == 8 || kind == 11 ? -1 : 0;
            i--;
        }
        return i;
    }

    int getValue(int slot) {
        if (in(slot, 16)) {
            return x[slot];
        }
        if (in(slot, 32)) {
            return inputs[slot - 16];
        }
        return switch (slot) {
            case 32 -> authority;
            case 33 -> program.size();
            case 34 -> position;
            case 35 -> status;
            case 36 -> lastCheck;
            default -> 0;
        };
    }

    int outCount(int c) {
        return in(c, 4) ? channels.get(c).size() : -1;
    }

    int outValue(int c, int i) {
        return in(c, 4) && in(i, channels.get(c).size()) ? channels.get(c).get(i) : 0;
    }
}
