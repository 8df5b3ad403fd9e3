import java.util.ArrayList;
import java.util.List;
import java.util.Map;
import java.util.TreeMap;
import java.util.TreeSet;

/** All that the class answers about one object at one moment, to tell what a call changed. */
final class Seen {
    private final Map<String, Integer> answers = new TreeMap<>();

    static Seen of(DecentLabels x) {
        Seen seen = new Seen();
        seen.readHierarchyAndLabels(x);
        seen.readProgram(x);
        seen.readRun(x);
        return seen;
    }

    private void readHierarchyAndLabels(DecentLabels x) {
        for (int a = 0; a < 8; a++) {
            for (int b = 0; b < 8; b++) {
                answers.put("actsFor " + a + " " + b, x.actsFor(a, b) ? 1 : 0);
            }
            for (int target = 0; target < DecentLabels.TARGETS; target++) {
                answers.put("policy " + target + " " + a, x.getPolicy(target, a));
                answers.put("canRead " + a + " " + target, x.canRead(a, target) ? 1 : 0);
            }
        }
    }

    private void readProgram(DecentLabels x) {
        for (int i = 0; i < 64; i++) {
            for (int field = 0; field < 4; field++) {
                answers.put("stmt " + i + " " + field, x.getStmt(i, field));
            }
        }
    }

    private void readRun(DecentLabels x) {
        for (int slot = 0; slot <= DecentLabels.SLOT_CHECK; slot++) {
            answers.put("value " + slot, x.getValue(slot));
        }
        for (int c = 0; c < DecentLabels.CHANNELS; c++) {
            answers.put("outCount " + c, x.outCount(c));
            for (int i = 0; i < DecentLabels.OUT_CAP; i++) {
                answers.put("out " + c + " " + i, x.outValue(c, i));
            }
        }
    }

    /** The answers that differ, as "name=new" in the order of their names; "" if there is none. */
    String changedTo(Seen later) {
        List<String> changed = new ArrayList<>();
        for (String name : new TreeSet<>(answers.keySet())) {
            if (!answers.get(name).equals(later.answers.get(name))) {
                changed.add(name + "=" + later.answers.get(name));
            }
        }
        return String.join(", ", changed);
    }
}
